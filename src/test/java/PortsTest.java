/** Promise 5: the picture unit's two ports. */
public final class PortsTest {
    private PortsTest() {
    }

    public static void main(String[] args) {
        Check.that("if w >> 14 is 2: register (w >> 8) & 15 = w & 255", PortsTest::registers);
        Check.that("register (w >> 8) & 15 (two bits of w count for nothing)", PortsTest::registerWordsOtherBits);
        Check.that("(CODE's two low bits 0)", PortsTest::registerWordsClearCode);
        Check.that("else: ADDRESS's low 14 bits = those of w, CODE's two low bits = w >> 14, another is waited for.",
            PortsTest::firstWord);
        Check.that("When one is: ADDRESS's two high bits = w & 3, CODE's four high ones = (w >> 4) & 15, none is waited for",
            PortsTest::secondWord);
        Check.that("When one is (a word that would set a register doesn't)", PortsTest::secondWordIsNoRegister);
        Check.that("if CODE's bit 5 is 1 and register 1's bit 4 (else nothing begins)", PortsTest::noMoveByItself);
        Check.that("Any access to DATA ends waiting for a word (a read)", PortsTest::dataReadEndsWaiting);
        Check.that("Any access to DATA ends waiting for a word (a write)", PortsTest::dataWrittenEndsWaiting);
        Check.that("and a read of CONTROL, ends waiting for a word", PortsTest::controlReadEndsWaiting);
        Check.that("ends waiting for a word (nothing else does)", PortsTest::nothingElseEndsWaiting);
        Check.that("DATA written: by CODE's low four bits: 1, 3, 5 (others: nothing)", PortsTest::writingByCode);
        Check.that("1: VRAM's word ADDRESS / 2 modulo 512", PortsTest::vramModulo);
        Check.that("with its halves changed if ADDRESS is odd", PortsTest::halvesChanged);
        Check.that("3: CRAM word ADDRESS / 2 modulo 16", PortsTest::cramModulo);
        Check.that("5: VSRAM word ADDRESS / 2 modulo 2", PortsTest::vsramModulo);
        Check.that("then ADDRESS grows by register 14", PortsTest::addressGrows);
        Check.that("an ADDRESS (16 bits) (over its end)", PortsTest::addressOverTheEnd);
        Check.that("DATA read: by CODE's low four bits 0, 8, 4: the word of VRAM, CRAM, VSRAM there", PortsTest::readingByCode);
        Check.that("0 for other codes", PortsTest::otherCodesReadZero);
        Check.that("as it is (also for an odd ADDRESS", PortsTest::oddAddressReads);
        Check.that("the word of VRAM, CRAM, VSRAM there (modulo 512, 16, 2)", PortsTest::readingModulo);
        Check.that("then ADDRESS grows. (by a read)", PortsTest::addressGrowsByReads);
        Check.that("bit 5 sprites collided, bit 6 there were too many (no other bit at first)", PortsTest::statusAtFirst);
        Check.end();
    }

    private static void registers() {
        Rig rig = new Rig();
        for (int r = 0; r < 16; r++) {
            rig.register(r, 255 - r);
        }
        rig.go();
        for (int r = 0; r < 16; r++) {
            rig.dueVideo("register", 3, r, 255 - r);
        }
        rig.dueVideo("no word is waited for", 4, 2, 0);
        rig.register(0, 0).register(15, 255).go();
        rig.dueVideo("the first, 0", 3, 0, 0);
        rig.dueVideo("the last, 255", 3, 15, 255);
        rig.dueVideo("no other", 3, 14, 241);
    }

    private static void registerWordsOtherBits() {
        Rig rig = new Rig().write(Rig.CONTROL, 0xB712).write(Rig.CONTROL, 0xBF34).write(Rig.CONTROL, 0x9056).go();
        rig.dueVideo("0xB712", 3, 7, 0x12);
        rig.dueVideo("0xBF34", 3, 15, 0x34);
        rig.dueVideo("0x9056", 3, 0, 0x56);
        rig.dueVideo("no word is waited for", 4, 2, 0);
    }

    private static void registerWordsClearCode() {
        Rig rig = new Rig().control(0xFFFF, 0x1F).register(3, 1).start().steps(2);
        rig.dueVideo("CODE", 4, 1, 0x1F);
        rig.steps(1);
        rig.dueVideo("CODE's two low bits are 0", 4, 1, 0x1C);
        rig.dueVideo("ADDRESS stays", 4, 0, 0xFFFF);
        // So what was for writing VRAM is for reading then.
        rig = new Rig().control(0, Rig.VRAM).register(14, 2).data(0x1234).go();
        rig.dueVideo("nothing written", 0, 0, 0);
        rig.dueVideo("ADDRESS grows", 4, 0, 2);
    }

    private static void firstWord() {
        int[][] cases = {{0x0000, 0, 0}, {0x3FFF, 0x3FFF, 0}, {0x4000, 0, 1}, {0x7FFF, 0x3FFF, 1}, {0xC000, 0, 3},
            {0xFFFF, 0x3FFF, 3}};
        for (int[] one : cases) {
            Rig rig = new Rig().control(0xC001, 60).write(Rig.CONTROL, one[0]).start().steps(2);
            rig.dueVideo("none is waited for", 4, 2, 0);
            rig.steps(1);
            rig.dueVideo("low 14 bits, the high ones stay", 4, 0, 0xC000 + one[1]);
            rig.dueVideo("two low bits, the high ones stay", 4, 1, 60 + one[2]);
            rig.dueVideo("another is waited for", 4, 2, 1);
        }
    }

    private static void secondWord() {
        int[][] cases = {{0x0000, 0, 0}, {0x0003, 0xC000, 0}, {0x00F0, 0, 60}, {0xFF0C, 0, 0}, {0xFFFF, 0xC000, 60},
            {0x0091, 0x4000, 36}};
        for (int[] one : cases) {
            Rig rig = new Rig().write(Rig.CONTROL, 0xD234).write(Rig.CONTROL, one[0]).start().steps(2);
            rig.dueVideo("two high bits, the low ones stay", 4, 0, one[1] + 0x1234);
            rig.dueVideo("four high bits, the low ones stay", 4, 1, one[2] + 3);
            rig.dueVideo("none is waited for", 4, 2, 0);
        }
    }

    private static void secondWordIsNoRegister() {
        Rig rig = new Rig().write(Rig.CONTROL, 0x7ABC).write(Rig.CONTROL, 0x8733).write(Rig.CONTROL, 0x8733).start().steps(2);
        rig.dueVideo("register 7", 3, 7, 0);
        rig.dueVideo("ADDRESS", 4, 0, 0xFABC);
        rig.dueVideo("CODE", 4, 1, 1 + 4 * 3);
        rig.steps(1);
        rig.dueVideo("the next word sets it", 3, 7, 0x33);
    }

    private static void noMoveByItself() {
        Rig rig = new Rig().register(1, 0xEF).register(11, 2).control(0, 63).start().steps(4);
        rig.dueRegister("register 1's bit 4 is 0", 11, 0);
        rig = new Rig().register(1, 16).register(11, 2).control(0, 31).start().steps(4);
        rig.dueRegister("CODE's bit 5 is 0", 11, 0);
        // The first word alone begins nothing, though CODE's bit 5 is 1 still.
        rig = new Rig().control(0, 33).register(1, 16).register(11, 2).write(Rig.CONTROL, 0x4000).start().steps(5);
        rig.dueVideo("CODE", 4, 1, 33);
        rig.dueRegister("no move", 11, 0);
        rig.write(Rig.CONTROL, 0x80).start().steps(1);
        rig.dueRegister("now", 11, 2);
        // Register 1 itself begins none.
        rig = new Rig().control(0, 33).register(1, 16).start().steps(3);
        rig.dueRegister("no move", 11, 0);
    }

    /** A first word, what may end waiting, then a word that sets register 7, if it is a first one. */
    private static Rig interrupted(int... words) {
        return new Rig().write(Rig.CONTROL, 0x4000).put(words).write(Rig.CONTROL, 0x8709).go();
    }

    private static void dueEnded(String what, Rig rig, boolean ended) {
        rig.dueVideo(what, 3, 7, ended ? 9 : 0);
        rig.dueVideo(what + ": ADDRESS", 4, 0, ended ? 0 : 0x4000);
    }

    private static void dataReadEndsWaiting() {
        dueEnded("a read of DATA", interrupted(0x3038, Rig.DATA), true);
    }

    private static void dataWrittenEndsWaiting() {
        Rig rig = interrupted(0x31FC, 5, Rig.DATA);
        dueEnded("a write of DATA", rig, true);
        rig.dueVideo("written with the half CODE", 0, 0, 5);
    }

    private static void controlReadEndsWaiting() {
        dueEnded("a read of CONTROL", interrupted(0x3038, Rig.CONTROL), true);
    }

    private static void nothingElseEndsWaiting() {
        int[] addresses = {Rig.POSITION, Rig.BUSREQ, Rig.RESET, Rig.PAD, Rig.DATA + 1, Rig.DATA + 2, Rig.CONTROL + 1,
            Rig.CONTROL - 1, 512};
        for (int address : addresses) {
            Rig rig = interrupted(0x3038, address);
            rig.dueVideo("a read at " + address, 3, 7, 0);
            rig = interrupted(0x31FC, 0, address);
            rig.dueVideo("a write at " + address, 3, 7, 0);
        }
        Rig rig = new Rig().write(Rig.CONTROL, 0x4000).put(Rig.STOP, 0x700).start();
        rig.x.run(800);
        rig.dueVideo("lines and pictures", 4, 2, 1);
    }

    private static void writingByCode() {
        for (int code = 0; code < 64; code++) {
            if (code % 4 == 2) {
                // A first word of that kind is a register, so there is no such CODE.
                continue;
            }
            Rig rig = new Rig().register(14, 2).control(0xFC06, code).data(0x1234).go();
            int low = code & 15;
            rig.dueVideo("CODE " + code, 0, 3, low == 1 ? 0x1234 : 0);
            rig.dueVideo("CODE " + code, 1, 3, low == 3 ? 0x1234 : 0);
            rig.dueVideo("CODE " + code, 2, 1, low == 5 ? 0x1234 : 0);
            rig.dueVideo("no other word", 0, 2, 0);
            rig.dueVideo("no other word", 1, 2, 0);
            rig.dueVideo("no other word", 2, 0, 0);
            rig.dueVideo("ADDRESS grows in any case", 4, 0, 0xFC08);
        }
    }

    /** Written at an ADDRESS, a word is found as word k of a kind, and nowhere beside it. */
    private static void dueWritten(int code, int kind, int address, int k) {
        Rig rig = new Rig().control(address, code).data(0xABCD).go();
        rig.dueVideo("written at " + address, kind, k, 0xABCD);
        rig.dueVideo("the word before", kind, k - 1, k == 0 ? -1 : 0);
        int size = kind == 0 ? 512 : kind == 1 ? 16 : 2;
        rig.dueVideo("the word behind", kind, k + 1, k + 1 == size ? -1 : 0);
    }

    private static void vramModulo() {
        dueWritten(Rig.VRAM, 0, 0, 0);
        dueWritten(Rig.VRAM, 0, 2, 1);
        dueWritten(Rig.VRAM, 0, 1022, 511);
        dueWritten(Rig.VRAM, 0, 1024, 0);
        dueWritten(Rig.VRAM, 0, 0x4002, 1);
        dueWritten(Rig.VRAM, 0, 0xFFFE, 511);
    }

    private static void halvesChanged() {
        int[] odd = {1, 5, 1023, 1025, 0xFFFF};
        for (int address : odd) {
            Rig rig = new Rig().control(address, Rig.VRAM).data(0x1234).go();
            int k = address / 2 % 512;
            rig.dueVideo("at " + address, 0, k, 0x3412);
            rig.dueVideo("the next word", 0, (k + 1) % 512, 0);
        }
        Rig rig = new Rig().control(5, Rig.CRAM).data(0x5678).control(3, Rig.VSRAM).data(0x9ABC).go();
        rig.dueVideo("CRAM as it is", 1, 2, 0x5678);
        rig.dueVideo("VSRAM as it is", 2, 1, 0x9ABC);
    }

    private static void cramModulo() {
        dueWritten(Rig.CRAM, 1, 0, 0);
        dueWritten(Rig.CRAM, 1, 1, 0);
        dueWritten(Rig.CRAM, 1, 30, 15);
        dueWritten(Rig.CRAM, 1, 31, 15);
        dueWritten(Rig.CRAM, 1, 32, 0);
        dueWritten(Rig.CRAM, 1, 0xFFFF, 15);
    }

    private static void vsramModulo() {
        dueWritten(Rig.VSRAM, 2, 0, 0);
        dueWritten(Rig.VSRAM, 2, 1, 0);
        dueWritten(Rig.VSRAM, 2, 2, 1);
        dueWritten(Rig.VSRAM, 2, 3, 1);
        dueWritten(Rig.VSRAM, 2, 4, 0);
        dueWritten(Rig.VSRAM, 2, 0xFFFE, 1);
    }

    private static void addressGrows() {
        int[] growths = {0, 1, 2, 128, 255};
        for (int growth : growths) {
            Rig rig = new Rig().register(14, growth).control(8, Rig.VRAM).data(1, 2, 3).go();
            rig.dueVideo("three times " + growth, 4, 0, 8 + 3 * growth);
        }
        Rig rig = new Rig().register(14, 0).control(8, Rig.VRAM).data(1, 2).go();
        rig.dueVideo("by 0: the last one stays", 0, 4, 2);
        rig.dueVideo("by 0: no other", 0, 5, 0);
    }

    private static void addressOverTheEnd() {
        Rig rig = new Rig().register(14, 2).control(0xFFFE, Rig.VRAM).data(0x1111, 0x2222).go();
        rig.dueVideo("the last word", 0, 511, 0x1111);
        rig.dueVideo("the first", 0, 0, 0x2222);
        rig.dueVideo("ADDRESS", 4, 0, 2);
        rig = new Rig().register(14, 255).control(0xFF80, Rig.VRAM).data(1, 2).read(0, Rig.DATA).go();
        rig.dueVideo("by 255", 4, 0, (0xFF80 + 3 * 255) & 0xFFFF);
        rig = new Rig().register(14, 1).control(0xFFFF, 0).read(0, Rig.DATA).go();
        rig.dueVideo("by a read", 4, 0, 0);
    }

    /** Word 3 of VRAM is 0x1111, of CRAM 0x2222, word 1 of VSRAM 0x3333; then ADDRESS and CODE are set. */
    private static Rig filled(int address, int code) {
        return new Rig().register(14, 2).control(6, Rig.VRAM).data(0x1111).control(6, Rig.CRAM).data(0x2222)
            .control(6, Rig.VSRAM).data(0x3333).control(address, code);
    }

    private static void readingByCode() {
        for (int high = 0; high < 64; high += 16) {
            filled(6, high).read(0, Rig.DATA).go().dueRegister("VRAM", 0, 0x1111);
            filled(6, high + 8).read(0, Rig.DATA).go().dueRegister("CRAM", 0, 0x2222);
            filled(6, high + 4).read(0, Rig.DATA).go().dueRegister("VSRAM", 0, 0x3333);
        }
        Rig rig = new Rig().register(14, 2).control(0, Rig.VRAM).data(1, 2, 3).control(0, 0).read(0, Rig.DATA)
            .read(1, Rig.DATA).read(2, Rig.DATA).go();
        rig.dueRegister("one", 0, 1);
        rig.dueRegister("after", 1, 2);
        rig.dueRegister("the other", 2, 3);
    }

    private static void otherCodesReadZero() {
        for (int code = 0; code < 64; code++) {
            int low = code & 15;
            if (code % 4 == 2 || low == 0 || low == 4 || low == 8) {
                continue;
            }
            Rig rig = filled(6, code).put(0x70FF).read(0, Rig.DATA).go();
            rig.dueRegister("CODE " + code, 0, 0xFFFF0000);
            rig.dueVideo("ADDRESS grows all the same", 4, 0, 8);
        }
    }

    private static void oddAddressReads() {
        filled(7, 0).read(0, Rig.DATA).go().dueRegister("VRAM", 0, 0x1111);
        filled(7, 8).read(0, Rig.DATA).go().dueRegister("CRAM", 0, 0x2222);
        filled(7, 4).read(0, Rig.DATA).go().dueRegister("VSRAM", 0, 0x3333);
        Rig rig = new Rig().control(6, Rig.VRAM).data(0x1234).control(7, 0).read(0, Rig.DATA).go();
        rig.dueRegister("its halves stay", 0, 0x1234);
    }

    private static void readingModulo() {
        filled(0xFC06, 0).read(0, Rig.DATA).go().dueRegister("VRAM", 0, 0x1111);
        filled(1024 + 6, 0).read(0, Rig.DATA).go().dueRegister("VRAM", 0, 0x1111);
        filled(32 + 6, 8).read(0, Rig.DATA).go().dueRegister("CRAM", 0, 0x2222);
        filled(0xFFE6, 8).read(0, Rig.DATA).go().dueRegister("CRAM", 0, 0x2222);
        filled(2, 4).read(0, Rig.DATA).go().dueRegister("VSRAM", 0, 0x3333);
        filled(0xFFFE, 4).read(0, Rig.DATA).go().dueRegister("VSRAM", 0, 0x3333);
        filled(4, 4).read(0, Rig.DATA).go().dueRegister("VSRAM's other word", 0, 0);
    }

    private static void addressGrowsByReads() {
        int[] growths = {0, 1, 2, 255};
        for (int growth : growths) {
            Rig rig = new Rig().register(14, growth).control(8, 0).read(0, Rig.DATA).read(0, Rig.DATA).go();
            rig.dueVideo("twice " + growth, 4, 0, 8 + 2 * growth);
        }
    }

    private static void statusAtFirst() {
        Rig rig = new Rig().register(0, 255).register(1, 255 - 32).read(0, Rig.CONTROL).start().steps(3);
        rig.dueRegister("STATUS", 0, 0);
        // A fill that is waited for is no move from memory.
        rig = new Rig().moving(2, 0, 2).control(0, 33).read(0, Rig.CONTROL).go();
        rig.dueRegister("STATUS", 0, rig.x.register(0) & 4);
    }
}
