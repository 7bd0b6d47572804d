/** Promise 5: the three ways in which the picture unit moves memory by itself. */
public final class MovesTest {
    private static final int MOVE = 32;
    /** What registers 12 and 11 hold, and the LENGTH that it is. */
    private static final int[][] LENGTHS = {{1, 1}, {2, 2}, {255, 255}, {256, 256}, {511, 511}, {0, 512}, {512, 512},
        {513, 1}, {1023, 511}, {1024, 512}, {0xFF02, 258}, {0xFFFF, 511}};

    private MovesTest() {
    }

    public static void main(String[] args) {
        Check.that("if CODE's bit 5 is 1 and register 1's bit 4: a MOVE begins", MovesTest::moveNeedsBothBits);
        Check.that("by register 15's two high bits: 0, 1: FROM MEMORY, 2: a FILL is waited for, 3: a COPY", MovesTest::kinds);
        Check.that("(also over other moves)", MovesTest::fillOverOtherMoves);
        Check.that("LENGTH = registers 12 * 256 + 11, at most 511 of it count (modulo 512; 0 is 512). (FROM MEMORY)",
            MovesTest::lengthsFromMemory);
        Check.that("LENGTH = registers 12 * 256 + 11, at most 511 of it count (modulo 512; 0 is 512). (FILL)",
            MovesTest::lengthsOfFills);
        Check.that("LENGTH = registers 12 * 256 + 11, at most 511 of it count (modulo 512; 0 is 512). (COPY)",
            MovesTest::lengthsOfCopies);
        Check.that("FROM MEMORY: the main one is frozen: each STEP of the machine moves one word; 2 cycles; until LENGTH"
            + " words are moved", MovesTest::fromMemory);
        Check.that("as a write to DATA would", MovesTest::fromMemoryByCode);
        Check.that("with no fill waited for (one that is goes on being so)", MovesTest::fromMemoryWhileAFillIsWaitedFor);
        Check.that("SOURCE = 2 * ((register 10 & 127) * 256 + register 9)", MovesTest::source);
        Check.that("SOURCE grows by 2, staying in the same 1024 bytes", MovesTest::sameKilobyte);
        Check.that("(read quietly, 0 from 768 on)", MovesTest::zeroFrom768);
        Check.that("the main one is frozen (the second and the lines go on)", MovesTest::secondAndLinesGoOn);
        Check.that("FILL: the DATA word is written as usual, then its high byte to LENGTH bytes of VRAM", MovesTest::fill);
        Check.that("each to byte ADDRESS ^ 1 as ADDRESS is then", MovesTest::fillBytes);
        Check.that("ADDRESS growing by register 14 each time", MovesTest::fillGrowth);
        Check.that("(whatever CODE is)", MovesTest::fillByCode);
        Check.that("FILL: (ADDRESS over its end)", MovesTest::fillOverTheEnd);
        Check.that("a FILL is waited for (until DATA is written)", MovesTest::fillWaits);
        Check.that("LENGTH, register 14 (as they are when DATA is written)", MovesTest::fillReadsRegistersLate);
        Check.that("COPY: LENGTH bytes from SOURCE's half to byte ADDRESS", MovesTest::copy);
        Check.that("one after the other", MovesTest::copyOverItself);
        Check.that("(as a byte address in VRAM, growing by 1)", MovesTest::copySource);
        Check.that("to byte ADDRESS (growing by register 14)", MovesTest::copyTarget);
        Check.that("Byte k of VRAM: k modulo 1024, the high half of word k / 2 for an even one.", MovesTest::bytesOfVram);
        Check.that("After a move registers 11 and 12 are 0 (9 and 10 stay).", MovesTest::registersAfterMoves);
        Check.end();
    }

    private static Rig moving(int length, int source, int kind) {
        return new Rig().moving(length, source, kind);
    }

    private static void moveNeedsBothBits() {
        for (int kind = 0; kind < 4; kind++) {
            Rig rig = moving(4, 0, kind).register(1, 0xEF).control(0, MOVE + 1).data(0x1234).go();
            rig.dueVideo("register 1's bit 4 is 0", 3, 11, 4);
            rig.dueVideo("a word alone", 0, 0, 0x1234);
            rig.dueVideo("a word alone", 0, 1, 0);
            rig = moving(4, 0, kind).control(0, 1).data(0x1234).go();
            rig.dueVideo("CODE's bit 5 is 0", 3, 11, 4);
            rig.dueVideo("a word alone", 0, 0, 0x1234);
            rig.dueVideo("a word alone", 0, 1, 0);
            rig = moving(4, 0, kind).control(0, 16 + 1).data(0x1234).go();
            rig.dueVideo("CODE's bit 4 does nothing", 3, 11, 4);
        }
    }

    private static void kinds() {
        int[] values = {0, 21, 63, 64, 127, 128, 150, 191, 192, 233, 255};
        for (int value : values) {
            Rig rig = moving(1, 0, 0).register(15, value).vram(4, 0x1234).register(9, 8).control(0, MOVE + 1).start();
            rig.steps(15);
            rig.dueRegister("register 15 = " + value + ": frozen", 11, value < 128 ? 2 : 0);
            rig.dueVideo("register 15 = " + value + ": copied", 0, 0, value >= 192 ? 0x1200 : 0);
            rig.dueVideo("register 15 = " + value + ": ended", 3, 11, value >= 192 ? 0 : 1);
            rig.x.run(4);
            rig.control(0x40, 1).data(0x5600).go();
            rig.dueVideo("register 15 = " + value + ": filled", 0, 33, value >= 128 && value < 192 ? 0x0056 : 0);
        }
    }

    private static void fillOverOtherMoves() {
        Rig rig = moving(2, 0, 2).vram(0, 0x1234).control(0, MOVE + 1)
            .register(15, 192).control(0x80, MOVE).go();
        rig.dueVideo("a copy of two bytes", 0, 64, 0x1200);
        rig.dueVideo("to each second byte", 0, 65, 0x3400);
        rig.register(11, 1).control(0x40, 1).data(0x9900).go();
        rig.dueVideo("the fill was waited for still", 0, 33, 0x0099);
        rig.control(0x60, 1).data(0x9900).go();
        rig.dueVideo("once", 0, 49, 0);
        // A fill that is waited for twice is one fill.
        rig = moving(1, 0, 2).control(0, MOVE + 1).control(0, MOVE + 1).data(0x7700).go();
        rig.dueVideo("filled", 0, 1, 0x0077);
        rig.data(0x8800).go();
        rig.dueVideo("once", 0, 3, 0);
    }

    private static void lengthsFromMemory() {
        for (int[] one : LENGTHS) {
            Rig rig = moving(one[0], 0, 0).control(0, MOVE + 3).put(Rig.LOOP).start().steps(9);
            int before = one[1] - 1;
            for (int words = before; words > 0; words -= 400) {
                int some = 2 * Math.min(words, 400);
                Check.due("words moved", rig.x.run(some), some);
            }
            rig.dueRegister("length " + one[0] + ": the last word is left", 11, 2);
            rig.dueStep("it", 2);
            rig.dueRegister("length " + one[0] + ": all are moved", 11, 0);
            rig.dueVideo("ADDRESS", 4, 0, 2 * one[1]);
        }
    }

    private static void lengthsOfFills() {
        for (int[] one : LENGTHS) {
            Rig rig = moving(one[0], 0, 2).control(0, MOVE).data(0x5500).go();
            int last = 2 * one[1] + 1;
            rig.dueVideo("length " + one[0] + ": the last byte", 0, last / 2 % 512, 0x0055);
            rig.dueVideo("length " + one[0] + ": no more", 0, (last / 2 + 1) % 512, one[1] == 512 ? 0x0055 : 0);
            rig.dueVideo("ADDRESS", 4, 0, 2 + 2 * one[1]);
        }
    }

    private static void lengthsOfCopies() {
        for (int[] one : LENGTHS) {
            // Word 0 is 0x5500: copying byte 0 to 1, 1 to 2 .. makes all of them 0x55.
            Rig rig = moving(one[0], 0, 3).vram(0, 0x5500).register(14, 1).control(1, MOVE).go();
            int bytes = one[1] + 1;
            rig.dueVideo("length " + one[0] + ": the last whole word", 0, bytes / 2 - 1, 0x5555);
            rig.dueVideo("length " + one[0] + ": behind", 0, bytes / 2, bytes % 2 == 0 ? 0 : 0x5500);
            rig.dueVideo("ADDRESS", 4, 0, bytes);
        }
    }

    private static void fromMemory() {
        Rig rig = moving(3, 128, 0).at(256, 0x1111, 0x2222, 0x3333, 0x4444).control(0x100, MOVE + 1).put(0x7001)
            .start().steps(9);
        rig.dueRegister("frozen", 11, 2);
        rig.dueVideo("nothing moved yet", 0, 128, 0);
        rig.dueStep("a word", 2);
        rig.dueVideo("moved", 0, 128, 0x1111);
        rig.dueVideo("not yet", 0, 129, 0);
        rig.dueVideo("ADDRESS grows", 4, 0, 0x102);
        rig.dueRegister("PC stays", 9, 182);
        rig.dueStep("a word", 2);
        rig.dueRegister("frozen", 11, 2);
        rig.dueStep("a word", 2);
        rig.dueRegister("frozen no more", 11, 0);
        rig.dueVideo("the second", 0, 129, 0x2222);
        rig.dueVideo("the third", 0, 130, 0x3333);
        rig.dueVideo("no more", 0, 131, 0);
        rig.dueVideo("CODE stays", 4, 1, MOVE + 1);
        rig.dueStep("then an instruction", 4);
        rig.dueRegister("D0", 0, 1);
    }

    private static void fromMemoryByCode() {
        Rig rig = moving(3, 128, 1).at(256, 0x1111, 0x2222, 0x3333).control(28, MOVE + 3).go();
        rig.dueVideo("CRAM", 1, 14, 0x1111);
        rig.dueVideo("CRAM", 1, 15, 0x2222);
        rig.dueVideo("CRAM", 1, 0, 0x3333);
        rig = moving(3, 128, 0).at(256, 0x1111, 0x2222, 0x3333).control(0, MOVE + 5).go();
        rig.dueVideo("VSRAM, over its end", 2, 0, 0x3333);
        rig.dueVideo("VSRAM", 2, 1, 0x2222);
        rig = moving(2, 128, 0).at(256, 0x1111, 0x2222).control(0, MOVE).go();
        rig.dueVideo("a CODE for reading: nothing", 0, 0, 0);
        rig.dueVideo("but ADDRESS grows", 4, 0, 4);
        rig = moving(2, 128, 0).at(256, 0x1234, 0x5678).register(14, 3).control(1, MOVE + 1).go();
        rig.dueVideo("odd: halves changed", 0, 0, 0x3412);
        rig.dueVideo("even", 0, 2, 0x5678);
        rig.dueVideo("ADDRESS", 4, 0, 7);
        rig = moving(2, 128, 0).at(256, 0x1111, 0x2222).control(0xFFFE, MOVE + 1).go();
        rig.dueVideo("VRAM's last word", 0, 511, 0x1111);
        rig.dueVideo("its first", 0, 0, 0x2222);
        rig.dueVideo("ADDRESS", 4, 0, 2);
    }

    private static void fromMemoryWhileAFillIsWaitedFor() {
        Rig rig = moving(4, 128, 2).at(256, 0x1111, 0x2222, 0x3333).control(0x40, MOVE + 1)
            .register(15, 0).register(11, 2).control(0, MOVE + 1).go();
        rig.dueVideo("moved, not filled", 0, 0, 0x1111);
        rig.dueVideo("moved, not filled", 0, 1, 0x2222);
        rig.dueVideo("no more", 0, 2, 0);
        rig.register(11, 2).register(14, 1).control(0x20, 1).data(0xAB01).go();
        rig.dueVideo("the fill was waited for still: the word, and byte 0x21 ^ 1", 0, 16, 0xAB01);
        rig.dueVideo("byte 0x22 ^ 1", 0, 17, 0x00AB);
    }

    /** Moves so many words from half of SOURCE on to VRAM's words 0, 1 .., which were 7 before. */
    private static Rig moved(Rig rig, int half, int words) {
        return rig.vram(0, 7, 7, 7).moving(words, half, 0).control(0, MOVE + 1).go();
    }

    private static void source() {
        int[][] cases = {{0x00, 0x4321}, {0x01, 638}, {0xFF, 0x9999}, {0x100, 0xAAAA}, {0x13F, 0xBBBB}, {0x8000, 0x4321},
            {0x80FF, 0x9999}, {0x813F, 0xBBBB}};
        for (int[] one : cases) {
            Rig rig = new Rig().at(0, 0x4321).at(510, 0x9999).write(512, 0xAAAA).write(638, 0xBBBB).go();
            moved(rig, one[0], 1);
            rig.dueVideo("half of SOURCE is " + one[0], 0, 0, one[1]);
            rig.dueVideo("one word", 0, 1, 7);
        }
        // 2 * 0x200 is 1024, not 0: bits 0 .. 6 of register 10 all count.
        for (int bit = 1; bit < 7; bit++) {
            Rig rig = moved(new Rig().at(0, 0x4321), 256 << bit, 1);
            rig.dueVideo("register 10 bit " + bit, 0, 0, 0);
        }
    }

    private static void sameKilobyte() {
        Rig rig = moved(new Rig().at(510, 0x9999).write(512, 0xAAAA), 255, 2);
        rig.dueVideo("the last of ROM", 0, 0, 0x9999);
        rig.dueVideo("the first of RAM", 0, 1, 0xAAAA);
        rig = moved(new Rig().at(0, 0x4321), 0x1FF, 3);
        rig.dueVideo("0 at 1022", 0, 0, 0);
        rig.dueVideo("then word 0", 0, 1, 0x4321);
        rig.dueVideo("then word 1", 0, 2, 638);
        // 2046 is followed by 1024, 65534 by 64512, not by 0.
        rig = moved(new Rig().at(0, 0x4321), 0x3FF, 2);
        rig.dueVideo("0 at 2046", 0, 0, 0);
        rig.dueVideo("0 at 1024", 0, 1, 0);
        rig = moved(new Rig().at(0, 0x4321), 0x7FFF, 2);
        rig.dueVideo("0 at 65534", 0, 0, 0);
        rig.dueVideo("0 at 64512", 0, 1, 0);
        // 512 words of the same 1024 bytes: behind 1022 - 2 * 128 it was 0 again.
        rig = new Rig().at(0, 0x4321).moving(0, 0x100, 0).control(0, MOVE + 1).go();
        rig.dueVideo("word 256 from 0", 0, 256, 0x4321);
        rig.dueVideo("word 511 from 510", 0, 511, rig.x.memory(510));
    }

    private static void zeroFrom768() {
        Rig rig = moved(new Rig().write(638, 0xBBBB), 0x13F, 2);
        rig.dueVideo("the last of RAM", 0, 0, 0xBBBB);
        rig.dueVideo("0 behind it", 0, 1, 0);
        rig = new Rig().write(768, 0xCCCC).write(894, 0xDDDD).go();
        rig.dueMemory("the second's RAM can be read", 768, 0xCCCC);
        moved(rig, 0x17F, 2);
        rig.dueVideo("0 at 766", 0, 0, 0);
        rig.dueVideo("0 at 768", 0, 1, 0);
        moved(rig, 0x1BF, 1);
        rig.dueVideo("0 at 894", 0, 0, 0);
        // DATA is not read: its ADDRESS would grow twice; nor is POSITION, which is not 0.
        rig = moved(new Rig(), 0x200, 1);
        rig.dueVideo("0 at DATA", 0, 0, 0);
        rig.dueVideo("ADDRESS", 4, 0, 2);
        rig = moved(new Rig(), 0x204, 1);
        rig.dueVideo("0 at POSITION", 0, 0, 0);
        rig = moved(new Rig(), 0x208, 1);
        rig.dueVideo("0 at BUSREQ", 0, 0, 0);
    }

    /** While the main one is frozen, the second does its cycles, lines go on, and interrupts wait. */
    private static void secondAndLinesGoOn() {
        Rig rig = moving(511, 0, 0).register(1, 48).write(Rig.RESET, 256).jump(300, 0).at(440, Rig.NOP)
            .at(300, 0x31FC, 0x4000, Rig.CONTROL, 0x31FC, 0x80, Rig.CONTROL, Rig.NOP);
        rig.start().steps(7 + 2 + 6 + 2);
        int pc = rig.x.register(15);
        rig.dueRegister("frozen", 11, 2);
        rig.x.run(200);
        rig.dueRegister("50 instructions of the second", 15, pc + 50);
        rig.x.run(400);
        rig.dueVideo("level 6 is pending", 4, 3, 6);
        rig.dueRegister("frozen", 11, 2);
        rig.x.run(420);
        rig.dueRegister("frozen", 11, 2);
        rig.dueStep("the last word", 2);
        rig.dueRegister("frozen no more", 11, 0);
        rig.dueStep("the interrupt", 44);
        rig.dueMemory("PC", 636, 312);
    }

    private static void fill() {
        Rig rig = moving(4, 0, 2).register(14, 1).control(8, MOVE + 1).put(Rig.NOP).data(0xABCD).data(0x1122).start();
        rig.steps(11);
        rig.dueRegister("not frozen", 11, 0);
        rig.dueVideo("it waits", 0, 4, 0);
        rig.dueStep("at once", 16);
        rig.dueVideo("the word, its high byte again", 0, 4, 0xABCD);
        rig.dueVideo("bytes 11 and 10", 0, 5, 0xABAB);
        rig.dueVideo("byte 13", 0, 6, 0x00AB);
        rig.dueVideo("ADDRESS", 4, 0, 13);
        rig.dueStep("then a word alone", 16);
        rig.dueVideo("odd: halves changed", 0, 6, 0x2211);
        rig.dueVideo("no fill", 0, 7, 0);
        rig.dueVideo("ADDRESS", 4, 0, 14);
    }

    private static void fillBytes() {
        // The word at an even ADDRESS; then byte 2 ^ 1, or from an odd one 3 ^ 1.
        Rig rig = moving(1, 0, 2).control(0, MOVE + 1).data(0x5511).go();
        rig.dueVideo("the word", 0, 0, 0x5511);
        rig.dueVideo("byte 3", 0, 1, 0x0055);
        rig = moving(1, 0, 2).control(1, MOVE + 1).data(0x5511).go();
        rig.dueVideo("the word, halves changed", 0, 0, 0x1155);
        rig.dueVideo("byte 2", 0, 1, 0x5500);
        rig = moving(2, 0, 2).register(14, 1).control(0, MOVE + 1).data(0x5511).go();
        rig.dueVideo("byte 0 again", 0, 0, 0x5511);
        rig.dueVideo("byte 3", 0, 1, 0x0055);
        rig = moving(3, 0, 2).register(14, 0).control(0, MOVE + 1).data(0x5511).go();
        rig.dueVideo("byte 1, three times", 0, 0, 0x5555);
        rig.dueVideo("no other", 0, 1, 0);
        rig.dueVideo("ADDRESS", 4, 0, 0);
        rig = moving(1, 0, 2).control(0, MOVE + 1).data(0x0055).go();
        rig.dueVideo("the high byte alone", 0, 1, 0);
    }

    private static void fillGrowth() {
        Rig rig = moving(3, 0, 2).register(14, 255).control(0, MOVE).data(0x5500).go();
        rig.dueVideo("byte 255 ^ 1", 0, 127, 0x5500);
        rig.dueVideo("byte 510 ^ 1", 0, 255, 0x0055);
        rig.dueVideo("byte 765 ^ 1", 0, 382, 0x5500);
        rig.dueVideo("ADDRESS", 4, 0, 4 * 255);
    }

    private static void fillByCode() {
        Rig rig = moving(3, 0, 2).control(4, MOVE + 3).data(0x77AA).go();
        rig.dueVideo("the word in CRAM", 1, 2, 0x77AA);
        rig.dueVideo("no word in VRAM", 0, 2, 0);
        rig.dueVideo("bytes", 0, 3, 0x0077);
        rig.dueVideo("bytes", 0, 5, 0x0077);
        rig.dueVideo("three alone", 0, 6, 0);
        rig.dueVideo("no more in CRAM", 1, 3, 0);
        rig = moving(1, 0, 2).control(2, MOVE + 5).data(0x77AA).go();
        rig.dueVideo("the word in VSRAM", 2, 1, 0x77AA);
        rig.dueVideo("a byte", 0, 2, 0x0077);
        rig = moving(1, 0, 2).control(4, MOVE).data(0x77AA).go();
        rig.dueVideo("a CODE for reading: no word", 0, 2, 0);
        rig.dueVideo("but a byte", 0, 3, 0x0077);
    }

    private static void fillOverTheEnd() {
        Rig rig = moving(2, 0, 2).control(0xFFFE, MOVE + 1).data(0x4400).go();
        rig.dueVideo("the word", 0, 511, 0x4400);
        rig.dueVideo("byte 1", 0, 0, 0x0044);
        rig.dueVideo("byte 3", 0, 1, 0x0044);
        rig.dueVideo("ADDRESS", 4, 0, 4);
        rig = moving(2, 0, 2).control(0x3FC, MOVE + 1).data(0x4400).go();
        rig.dueVideo("the word", 0, 510, 0x4400);
        rig.dueVideo("byte 1023", 0, 511, 0x0044);
        rig.dueVideo("byte 1025 is byte 1", 0, 0, 0x0044);
        rig.dueVideo("ADDRESS", 4, 0, 0x402);
        rig = moving(1, 0, 2).control(0x3FD, MOVE).data(0x4400).go();
        rig.dueVideo("byte 1022", 0, 511, 0x4400);
    }

    private static void fillWaits() {
        Rig rig = moving(2, 0, 2).control(0, MOVE + 1).read(0, Rig.DATA).read(1, Rig.CONTROL).control(0, 1).put(Rig.NOP).go();
        rig.dueVideo("neither reads nor CONTROL begin or end it", 3, 11, 2);
        rig.dueVideo("not yet", 0, 1, 0);
        rig.data(0x3300).go();
        rig.dueVideo("now", 3, 11, 0);
        rig.dueVideo("byte 3", 0, 1, 0x0033);
        rig.data(0x4400).go();
        rig.dueVideo("then a word alone", 0, 3, 0x4400);
        rig.dueVideo("no fill", 0, 4, 0);
    }

    private static void fillReadsRegistersLate() {
        Rig rig = moving(1, 0, 2).control(0, MOVE + 1).register(11, 2).register(14, 4).control(0x20, 1).data(0x6600).go();
        rig.dueVideo("the word at the new ADDRESS", 0, 16, 0x6600);
        rig.dueVideo("byte 0x24 ^ 1", 0, 18, 0x0066);
        rig.dueVideo("byte 0x28 ^ 1", 0, 20, 0x0066);
        rig.dueVideo("no more", 0, 22, 0);
        // Register 1's bit 4 counts as the fill begins to be waited for.
        rig = moving(1, 0, 2).control(0, MOVE + 1).register(1, 0).control(0x20, 1).data(0x6600).go();
        rig.dueVideo("filled", 0, 17, 0x0066);
    }

    private static void copy() {
        Rig rig = moving(3, 1, 3).vram(0, 0x1122, 0x3344).register(14, 1).control(0x10, MOVE + 1).start();
        rig.steps(14);
        rig.dueVideo("not yet", 0, 8, 0);
        rig.dueStep("at once", 16);
        rig.dueRegister("not frozen", 11, 0);
        rig.dueVideo("bytes 1, 2", 0, 8, 0x2233);
        rig.dueVideo("byte 3", 0, 9, 0x4400);
        rig.dueVideo("ADDRESS", 4, 0, 0x13);
        rig.dueVideo("the source stays", 0, 0, 0x1122);
        // Whatever CODE is, it goes to VRAM.
        rig = moving(2, 0, 3).vram(0, 0x1122).register(14, 1).control(2, MOVE + 3).go();
        rig.dueVideo("VRAM", 0, 1, 0x1122);
        rig.dueVideo("CRAM is left alone", 1, 1, 0);
    }

    private static void copyOverItself() {
        Rig rig = moving(5, 0, 3).vram(0, 0xA1B2, 0xC3D4, 0xE5F6).register(14, 1).control(1, MOVE).go();
        rig.dueVideo("all are the first", 0, 0, 0xA1A1);
        rig.dueVideo("all are the first", 0, 1, 0xA1A1);
        rig.dueVideo("all are the first", 0, 2, 0xA1A1);
        rig = moving(4, 1, 3).vram(0, 0xA1B2, 0xC3D4, 0xE5F6).register(14, 1).control(0, MOVE).go();
        rig.dueVideo("downwards nothing is lost", 0, 0, 0xB2C3);
        rig.dueVideo("downwards nothing is lost", 0, 1, 0xD4E5);
        rig = moving(3, 0, 3).vram(0, 0xA1B2, 0xC3D4).register(14, 0).control(3, MOVE).go();
        rig.dueVideo("one byte, the last of three", 0, 1, 0xC3C3);
    }

    private static void copySource() {
        // From byte 1023 to 0; bit 7 of register 10 counts for nothing; modulo 1024.
        int[] halves = {0x3FF, 0x83FF, 0x7FF, 0x7FFF};
        for (int half : halves) {
            Rig rig = moving(2, half, 3).vram(511, 0x1234).vram(0, 0x5678).register(14, 1).control(0x100, MOVE).go();
            rig.dueVideo("bytes 1023 and 0", 0, 128, 0x3456);
        }
        Rig rig = moving(2, 0x401, 3).vram(0, 0x5678, 0x9ABC).register(14, 1).control(0x100, MOVE).go();
        rig.dueVideo("byte 0x401 is byte 1", 0, 128, 0x789A);
        // By 1 it grows, though ADDRESS grows by 3.
        rig = moving(2, 0, 3).vram(0, 0x5678, 0x9ABC).register(14, 3).control(0x100, MOVE).go();
        rig.dueVideo("byte 0", 0, 128, 0x5600);
        rig.dueVideo("byte 1", 0, 129, 0x0078);
    }

    private static void copyTarget() {
        Rig rig = moving(2, 0, 3).vram(0, 0x5678).register(14, 255).control(0x101, MOVE).go();
        rig.dueVideo("byte 0x101", 0, 128, 0x0056);
        rig.dueVideo("byte 0x200", 0, 256, 0x7800);
        rig.dueVideo("ADDRESS", 4, 0, 0x101 + 510);
        rig = moving(2, 4, 3).vram(2, 0x5678).register(14, 1).control(0xFFFF, MOVE).go();
        rig.dueVideo("byte 65535 is byte 1023", 0, 511, 0x0056);
        rig.dueVideo("then byte 0", 0, 0, 0x7800);
        rig.dueVideo("ADDRESS", 4, 0, 1);
    }

    private static void bytesOfVram() {
        int[][] cases = {{0, 0, 0x5600}, {1, 0, 0x0056}, {2, 1, 0x5600}, {1022, 511, 0x5600}, {1023, 511, 0x0056},
            {1024, 0, 0x5600}, {1025, 0, 0x0056}, {0xFFFF, 511, 0x0056}};
        for (int[] one : cases) {
            Rig rig = moving(1, 0x200, 3).vram(256, 0x5600).register(14, 1).control(one[0], MOVE).go();
            rig.dueVideo("byte " + one[0], 0, one[1], one[2]);
        }
    }

    private static void registersAfterMoves() {
        for (int kind = 0; kind < 4; kind++) {
            Rig rig = moving(0x303, 0x8123, kind).control(0, MOVE + 1).data(0x5500).start().steps(9);
            if (kind < 2) {
                rig.steps(5);
                rig.dueVideo("register 11 under way", 3, 11, 3);
                rig.dueVideo("register 12 under way", 3, 12, 3);
            }
            rig.x.run(800);
            rig.dueVideo("register 11", 3, 11, 0);
            rig.dueVideo("register 12", 3, 12, 0);
            rig.dueVideo("register 9 stays", 3, 9, 0x23);
            rig.dueVideo("register 10 stays", 3, 10, 0x81);
            rig.dueVideo("register 14 stays", 3, 14, 2);
            rig.dueVideo("register 15 stays", 3, 15, kind << 6);
        }
        // One word alone, and the words before the last one.
        int[] lengths = {1, 2, 3};
        for (int length : lengths) {
            Rig rig = moving(length, 0, 0).control(0, MOVE + 1).start().steps(9);
            for (int k = 0; k < length; k++) {
                rig.dueVideo("register 11 before word " + k, 3, 11, length);
                rig.dueStep("a word", 2);
            }
            rig.dueVideo("register 11 behind the last", 3, 11, 0);
        }
        // So the next move, without a new length, has 512.
        Rig rig = moving(1, 0, 3).control(0, MOVE).control(0, MOVE).go();
        rig.dueVideo("ADDRESS", 4, 0, 1024);
    }
}
