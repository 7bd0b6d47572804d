/** Promise 5: the picture unit's two ports. */
public final class PortsTest {
    private PortsTest() {
    }

    public static void main(String[] args) {
        registers();
        firstAndSecondWords();
        waitingForAWordEnds();
        writingByCode();
        readingByCode();
        oddAddresses();
        addressGrows();
        Check.end();
    }

    private static void registers() {
        Rig rig = new Rig();
        for (int r = 0; r < 16; r++) {
            rig.register(r, 255 - r);
        }
        rig.go();
        for (int r = 0; r < 16; r++) {
            rig.dueVideo("register", 3, r, 255 - r);
        }
        rig = new Rig().write(Rig.CONTROL, 0xB712).write(Rig.CONTROL, 0xBF34).write(Rig.CONTROL, 0x9056).go();
        rig.dueVideo("bits 12 and 13 count for nothing", 3, 7, 0x12);
        rig.dueVideo("bits 12 and 13 count for nothing", 3, 15, 0x34);
        rig.dueVideo("bits 12 and 13 count for nothing", 3, 0, 0x56);
        rig.dueVideo("no word is waited for", 4, 2, 0);
        rig = new Rig().control(0xFFFF, 0x1F).register(3, 1).start().steps(2);
        rig.dueVideo("CODE", 4, 1, 0x1F);
        rig.steps(1);
        rig.dueVideo("CODE's two low bits are 0", 4, 1, 0x1C);
        rig.dueVideo("ADDRESS stays", 4, 0, 0xFFFF);
    }

    private static void firstAndSecondWords() {
        Rig rig = new Rig().write(Rig.CONTROL, 0xC123).write(Rig.CONTROL, 0xFFFF).write(Rig.CONTROL, 0x7ABC)
            .write(Rig.CONTROL, 0x8000).write(Rig.CONTROL, 0x0001).write(Rig.CONTROL, 0xFF0C).start().steps(1);
        rig.dueVideo("low 14 bits", 4, 0, 0x0123);
        rig.dueVideo("two low bits", 4, 1, 3);
        rig.dueVideo("another is waited for", 4, 2, 1);
        rig.steps(1);
        rig.dueVideo("two high bits", 4, 0, 0xC123);
        rig.dueVideo("four high bits", 4, 1, 63);
        rig.dueVideo("none is waited for", 4, 2, 0);
        rig.dueRegister("register 1's bit 4 is 0: no move", 11, 0);
        rig.steps(1);
        rig.dueVideo("the high ones stay", 4, 0, 0xFABC);
        rig.dueVideo("the high ones stay", 4, 1, 61);
        rig.steps(1);
        rig.dueVideo("a second word, not a register", 4, 0, 0x3ABC);
        rig.dueVideo("a second word, not a register", 4, 1, 1);
        rig.dueVideo("register 0", 3, 0, 0);
        rig.steps(2);
        rig.dueVideo("bits 2 and 3 count for nothing", 4, 0, 1);
        rig.dueVideo("the low ones stay", 4, 1, 0);
        rig.dueVideo("none is waited for", 4, 2, 0);
    }

    private static void waitingForAWordEnds() {
        Rig rig = new Rig().write(Rig.CONTROL, 0x4000).read(0, Rig.CONTROL).write(Rig.CONTROL, 0x8709)
            .write(Rig.CONTROL, 0x4000).read(0, Rig.DATA).write(Rig.CONTROL, 0x870A)
            .write(Rig.CONTROL, 0x4000).write(Rig.DATA, 5).write(Rig.CONTROL, 0x870B)
            .write(Rig.CONTROL, 0x4000).read(0, Rig.POSITION).write(Rig.CONTROL, 0x870C).start().steps(2);
        rig.dueVideo("by a read of CONTROL", 4, 2, 0);
        rig.steps(1);
        rig.dueVideo("a register then", 3, 7, 9);
        rig.steps(2);
        rig.dueVideo("by a read of DATA", 4, 2, 0);
        rig.steps(1);
        rig.dueVideo("a register then", 3, 7, 10);
        rig.steps(2);
        rig.dueVideo("by a write of DATA", 4, 2, 0);
        rig.dueVideo("written with the half CODE", 0, 0, 5);
        rig.steps(1);
        rig.dueVideo("a register then", 3, 7, 11);
        rig.steps(2);
        rig.dueVideo("not by another read", 4, 2, 1);
        rig.steps(1);
        rig.dueVideo("no register then", 3, 7, 11);
    }

    private static void writingByCode() {
        for (int code = 0; code < 64; code++) {
            if (code % 4 == 2) {
                // A first word of that kind is a register, so there is no such CODE.
                continue;
            }
            Rig rig = new Rig().register(14, 2).control(0xFC06, code).data(0x1234).go();
            int low = code & 15;
            rig.dueVideo("CODE " + code, 0, 3, low == 1 ? 0x1234 : 0);
            rig.dueVideo("CODE " + code, 1, 3, low == 3 ? 0x1234 : 0);
            rig.dueVideo("CODE " + code, 2, 1, low == 5 ? 0x1234 : 0);
            rig.dueVideo("no other word", 0, 2, 0);
            rig.dueVideo("no other word", 1, 2, 0);
            rig.dueVideo("no other word", 2, 0, 0);
            rig.dueVideo("ADDRESS grows in any case", 4, 0, 0xFC08);
        }
        Rig rig = new Rig().register(14, 2).control(1022, 1).data(0xFFFF, 0xEEEE).control(30, 3).data(0xDDDD, 0xCCCC)
            .control(2, 5).data(0xBBBB, 0xAAAA).go();
        rig.dueVideo("the last word of VRAM", 0, 511, 0xFFFF);
        rig.dueVideo("modulo 512", 0, 0, 0xEEEE);
        rig.dueVideo("the last word of CRAM, all 16 bits", 1, 15, 0xDDDD);
        rig.dueVideo("modulo 16", 1, 0, 0xCCCC);
        rig.dueVideo("the last word of VSRAM, all 16 bits", 2, 1, 0xBBBB);
        rig.dueVideo("modulo 2", 2, 0, 0xAAAA);
    }

    private static void readingByCode() {
        for (int code = 0; code < 64; code++) {
            if (code % 4 == 2) {
                // A first word of that kind is a register, so there is no such CODE.
                continue;
            }
            Rig rig = new Rig().register(14, 2).control(6, 1).data(0x1111).control(6, 3).data(0x2222)
                .control(6, 5).data(0x3333).control(0xF806, code).read(0, Rig.DATA).go();
            int low = code & 15;
            int want = low == 0 ? 0x1111 : low == 8 ? 0x2222 : low == 4 ? 0x3333 : 0;
            rig.dueRegister("CODE " + code, 0, want);
            rig.dueVideo("ADDRESS grows in any case", 4, 0, 0xF808);
        }
        Rig rig = new Rig().register(14, 2).control(0, 1).data(1, 2, 3).control(0, 0).read(0, Rig.DATA)
            .read(1, Rig.DATA).read(2, Rig.DATA).go();
        rig.dueRegister("one", 0, 1);
        rig.dueRegister("after", 1, 2);
        rig.dueRegister("the other", 2, 3);
    }

    private static void oddAddresses() {
        Rig rig = new Rig().register(14, 1).control(5, 1).data(0x1234).control(5, 3).data(0x5678).control(3, 5)
            .data(0x9ABC).control(5, 0).read(0, Rig.DATA).control(1023, 1).data(0xDEF0).go();
        rig.dueVideo("halves changed", 0, 2, 0x3412);
        rig.dueVideo("no other word", 0, 3, 0);
        rig.dueVideo("as it is", 1, 2, 0x5678);
        rig.dueVideo("as it is", 2, 1, 0x9ABC);
        rig.dueRegister("read as it is", 0, 0x3412);
        rig.dueVideo("halves changed", 0, 511, 0xF0DE);
    }

    private static void addressGrows() {
        Rig rig = new Rig().register(14, 255).control(0xFF80, 1).data(1, 2).read(0, Rig.DATA).go();
        rig.dueVideo("modulo 65536", 4, 0, (0xFF80 + 3 * 255) & 0xFFFF);
        rig = new Rig().register(14, 0).control(8, 1).data(1, 2).go();
        rig.dueVideo("by 0", 4, 0, 8);
        rig.dueVideo("the last one", 0, 4, 2);
    }
}
