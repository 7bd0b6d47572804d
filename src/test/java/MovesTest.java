/** Promise 5: the three ways in which the picture unit moves memory by itself. */
public final class MovesTest {
    private static final int MOVE = 32;

    private MovesTest() {
    }

    public static void main(String[] args) {
        fromMemory();
        fromMemoryToOtherMemories();
        fromMemoryLengths();
        fromMemorySource();
        fromMemoryWhileAFillIsWaitedFor();
        moveNeedsRegisterOne();
        fill();
        fillEdges();
        fillOverOtherMoves();
        copy();
        copyEdges();
        kinds();
        secondAndLinesGoOn();
        Check.end();
    }

    private static Rig moving(int length, int source, int kind) {
        return new Rig().register(1, 16).register(11, length & 255).register(12, length >> 8)
            .register(9, source & 255).register(10, source >> 8).register(15, kind << 6).register(14, 2);
    }

    private static void fromMemory() {
        Rig rig = moving(3, 128, 0).at(256, 0x1111, 0x2222, 0x3333, 0x4444).control(0x100, MOVE + 1).put(0x7001)
            .start().steps(9);
        rig.dueRegister("frozen", 11, 2);
        rig.dueVideo("nothing moved yet", 0, 128, 0);
        rig.dueStep("a word", 2);
        rig.dueVideo("moved", 0, 128, 0x1111);
        rig.dueVideo("not yet", 0, 129, 0);
        rig.dueVideo("ADDRESS grows", 4, 0, 0x102);
        rig.dueVideo("register 11 stays as long", 3, 11, 3);
        rig.dueStep("a word", 2);
        rig.dueVideo("register 11 stays as long", 3, 11, 3);
        rig.dueRegister("frozen", 11, 2);
        rig.dueStep("a word", 2);
        rig.dueRegister("frozen no more", 11, 0);
        rig.dueVideo("the second", 0, 129, 0x2222);
        rig.dueVideo("the third", 0, 130, 0x3333);
        rig.dueVideo("no more", 0, 131, 0);
        rig.dueVideo("register 11", 3, 11, 0);
        rig.dueVideo("register 12", 3, 12, 0);
        rig.dueVideo("register 9 stays", 3, 9, 128);
        rig.dueVideo("CODE stays", 4, 1, MOVE + 1);
        rig.dueStep("then an instruction", 4);
        rig.dueRegister("D0", 0, 1);
    }

    private static void fromMemoryToOtherMemories() {
        Rig rig = moving(3, 128, 1).at(256, 0x1111, 0x2222, 0x3333).control(28, MOVE + 3).go();
        rig.dueVideo("CRAM", 1, 14, 0x1111);
        rig.dueVideo("CRAM", 1, 15, 0x2222);
        rig.dueVideo("CRAM", 1, 0, 0x3333);
        rig = moving(2, 128, 0).at(256, 0x1111, 0x2222).control(0, MOVE + 5).go();
        rig.dueVideo("VSRAM", 2, 0, 0x1111);
        rig.dueVideo("VSRAM", 2, 1, 0x2222);
        rig = moving(2, 128, 0).at(256, 0x1111, 0x2222).control(0, MOVE).go();
        rig.dueVideo("a CODE for reading: nothing", 0, 0, 0);
        rig.dueVideo("but ADDRESS grows", 4, 0, 4);
        rig = moving(2, 128, 0).at(256, 0x1234, 0x5678).register(14, 3).control(1, MOVE + 1).go();
        rig.dueVideo("odd: halves changed", 0, 0, 0x3412);
        rig.dueVideo("even", 0, 2, 0x5678);
        rig.dueVideo("ADDRESS", 4, 0, 7);
    }

    private static void fromMemoryLengths() {
        int[][] cases = {{1, 1}, {0, 512}, {511, 511}, {512, 512}, {513, 1}, {0xFF02, 258}};
        for (int[] one : cases) {
            Rig rig = moving(one[0], 0, 0).control(0, MOVE + 3).put(Rig.LOOP).start().steps(9);
            int moved = 0;
            while (moved < 600 && rig.x.register(11) == 2) {
                rig.x.run(2);
                moved++;
            }
            Check.due("words moved with length " + one[0], moved, one[1]);
            rig.dueVideo("ADDRESS", 4, 0, 2 * one[1]);
        }
    }

    private static void fromMemorySource() {
        // The end of ROM, then RAM, then 0 from 640 on.
        Rig rig = new Rig().write(512, 0xAAAA).write(638, 0xBBBB).write(768, 0xCCCC).go();
        rig.at(510, 0x9999).register(1, 16).register(9, 255).register(11, 2).register(14, 2)
            .control(0, MOVE + 1).go();
        rig.dueVideo("ROM", 0, 0, 0x9999);
        rig.dueVideo("RAM", 0, 1, 0xAAAA);
        rig.register(1, 16).register(9, 0x3F).register(10, 1).register(11, 2).control(0, MOVE + 1).go();
        rig.dueVideo("the last of RAM", 0, 0, 0xBBBB);
        rig.dueVideo("0 behind it", 0, 1, 0);
        rig.dueMemory("the second's RAM can be read", 768, 0xCCCC);
        rig.vram(0, 7, 7).register(9, 0x80).register(10, 1).register(11, 1).control(0, MOVE + 1).go();
        rig.dueVideo("but not moved", 0, 0, 0);
        rig.dueVideo("one word", 0, 1, 7);
        // Behind 1022 comes 0 again, with what is there; bit 7 of register 10 counts for nothing.
        rig.at(0, 0x4321).vram(0, 7, 7, 7).register(9, 0xFF).register(10, 0x81).register(11, 2).control(0, MOVE + 1).go();
        rig.dueVideo("0 at 1022", 0, 0, 0);
        rig.dueVideo("the same 1024 bytes", 0, 1, 0x4321);
        rig.dueVideo("two words", 0, 2, 7);
        // 2046 is followed by 1024, not by 2048 or 0; both are 0.
        rig.vram(0, 7, 7, 7).register(9, 0xFF).register(10, 3).register(11, 2).control(0, MOVE + 1).go();
        rig.dueVideo("0 at 2046", 0, 0, 0);
        rig.dueVideo("0 at 1024", 0, 1, 0);
        // 65534 is followed by 64512, not by 0.
        rig.vram(0, 7, 7, 7).register(9, 0xFF).register(10, 0x7F).register(11, 2).control(0, MOVE + 1).go();
        rig.dueVideo("0 at 65534", 0, 0, 0);
        rig.dueVideo("0 at 64512", 0, 1, 0);
        rig.dueVideo("registers 9 and 10 stay", 3, 9, 0xFF);
        rig.dueVideo("registers 9 and 10 stay", 3, 10, 0x7F);
        // DATA is not read: its ADDRESS would grow twice.
        rig.vram(0, 7, 7, 7).register(9, 0).register(10, 2).register(11, 1).control(0, MOVE + 1).go();
        rig.dueVideo("0 at DATA", 0, 0, 0);
        rig.dueVideo("ADDRESS", 4, 0, 2);
    }

    private static void fromMemoryWhileAFillIsWaitedFor() {
        Rig rig = moving(4, 128, 2).at(256, 0x1111, 0x2222, 0x3333).control(0x40, MOVE + 1)
            .register(15, 0).register(11, 2).control(0, MOVE + 1).go();
        rig.dueVideo("moved, not filled", 0, 0, 0x1111);
        rig.dueVideo("moved, not filled", 0, 1, 0x2222);
        rig.dueVideo("no more", 0, 2, 0);
        rig.register(11, 2).register(14, 1).control(0x20, 1).data(0xAB01).go();
        rig.dueVideo("the fill was waited for still: the word, and byte 0x21 ^ 1", 0, 16, 0xAB01);
        rig.dueVideo("byte 0x22 ^ 1", 0, 17, 0x00AB);
    }

    private static void moveNeedsRegisterOne() {
        for (int kind = 0; kind < 4; kind++) {
            Rig rig = moving(4, 0, kind).register(1, 0xEF).control(0, MOVE + 1).data(0x1234).go();
            rig.dueVideo("no move", 3, 11, 4);
            rig.dueVideo("a word alone", 0, 0, 0x1234);
            rig.dueVideo("a word alone", 0, 1, 0);
            rig = moving(4, 0, kind).control(0, 1).data(0x1234).go();
            rig.dueVideo("CODE's bit 5 is 0", 3, 11, 4);
            rig.dueVideo("a word alone", 0, 0, 0x1234);
            rig.dueVideo("a word alone", 0, 1, 0);
            rig = moving(4, 0, kind).control(0, 16 + 1).data(0x1234).go();
            rig.dueVideo("CODE's bit 4 does nothing", 3, 11, 4);
        }
    }

    private static void fill() {
        Rig rig = moving(4, 0, 2).register(14, 1).control(8, MOVE + 1).put(Rig.NOP).data(0xABCD).data(0x1122).start();
        rig.steps(11);
        rig.dueRegister("not frozen", 11, 0);
        rig.dueVideo("it waits", 0, 4, 0);
        rig.dueVideo("it waits", 3, 11, 4);
        rig.dueStep("at once", 16);
        // The word at 8, then bytes 9 ^ 1, 10 ^ 1, 11 ^ 1, 12 ^ 1.
        rig.dueVideo("the word, its high byte again", 0, 4, 0xABCD);
        rig.dueVideo("bytes 11 and 10", 0, 5, 0xABAB);
        rig.dueVideo("byte 13", 0, 6, 0x00AB);
        rig.dueVideo("ADDRESS", 4, 0, 13);
        rig.dueVideo("register 11", 3, 11, 0);
        rig.dueStep("then a word alone", 16);
        rig.dueVideo("odd: halves changed", 0, 6, 0x2211);
        rig.dueVideo("no fill", 0, 7, 0);
        rig.dueVideo("ADDRESS", 4, 0, 14);
    }

    private static void fillEdges() {
        // 512 bytes each second one: all high halves, or low ones.
        Rig rig = moving(0, 0, 2).control(0, MOVE + 1).data(0x5511).go();
        rig.dueVideo("byte 1 at last, the word before", 0, 0, 0x5555);
        for (int k = 1; k < 512; k += 51) {
            rig.dueVideo("low halves", 0, k, 0x0055);
        }
        rig.dueVideo("ADDRESS", 4, 0, 2 + 1024);
        // Whatever CODE is: the word goes to CRAM, the bytes to VRAM.
        rig = moving(3, 0, 2).control(4, MOVE + 3).data(0x77AA).go();
        rig.dueVideo("the word", 1, 2, 0x77AA);
        rig.dueVideo("no word in VRAM", 0, 2, 0);
        rig.dueVideo("bytes", 0, 3, 0x0077);
        rig.dueVideo("bytes", 0, 5, 0x0077);
        rig.dueVideo("three alone", 0, 6, 0);
        rig = moving(1, 0, 2).control(4, MOVE).data(0x77AA).go();
        rig.dueVideo("a CODE for reading: no word", 0, 2, 0);
        rig.dueVideo("but a byte", 0, 3, 0x0077);
        // The length and the growth are those at the time of the fill.
        rig = moving(1, 0, 2).control(0, MOVE + 1).register(11, 2).register(14, 4).control(0x20, 1).data(0x6600).go();
        rig.dueVideo("the word at the new ADDRESS", 0, 16, 0x6600);
        rig.dueVideo("byte 0x24 ^ 1", 0, 18, 0x0066);
        rig.dueVideo("byte 0x28 ^ 1", 0, 20, 0x0066);
        rig.dueVideo("no more", 0, 22, 0);
        // ADDRESS modulo 1024 in VRAM, modulo 65536 itself.
        rig = moving(2, 0, 2).control(0xFFFE, MOVE + 1).data(0x4400).go();
        rig.dueVideo("the word", 0, 511, 0x4400);
        rig.dueVideo("byte 1", 0, 0, 0x0044);
        rig.dueVideo("byte 3", 0, 1, 0x0044);
        rig.dueVideo("ADDRESS", 4, 0, 4);
        // A read of DATA does not begin it, nor does it end it.
        rig = moving(2, 0, 2).control(0, MOVE + 1).read(0, Rig.DATA).read(1, Rig.CONTROL).put(Rig.NOP).go();
        rig.dueVideo("not yet", 3, 11, 2);
        rig.data(0x3300).go();
        rig.dueVideo("now", 3, 11, 0);
        rig.dueVideo("byte 5", 0, 2, 0x0033);
        // A length of registers 12 and 11.
        rig = moving(0x303, 0, 2).register(14, 2).control(0, MOVE + 1).data(0x2200).go();
        rig.dueVideo("ADDRESS", 4, 0, 2 + 2 * 0x103);
        rig.dueVideo("register 12", 3, 12, 0);
    }

    private static void fillOverOtherMoves() {
        Rig rig = moving(2, 0, 2).vram(0, 0x1234).control(0, MOVE + 1)
            .register(15, 192).control(0x80, MOVE).go();
        rig.dueVideo("a copy of two bytes", 0, 64, 0x1200);
        rig.dueVideo("to each second byte", 0, 65, 0x3400);
        rig.register(11, 1).control(0x40, 1).data(0x9900).go();
        rig.dueVideo("the fill was waited for still", 0, 33, 0x0099);
        rig.control(0x60, 1).data(0x9900).go();
        rig.dueVideo("no more", 0, 49, 0);
    }

    private static void copy() {
        Rig rig = moving(3, 1, 3).vram(0, 0x1122, 0x3344).register(14, 1).control(0x10, MOVE + 1).start();
        rig.steps(14);
        rig.dueVideo("not yet", 0, 8, 0);
        rig.dueStep("at once", 16);
        rig.dueRegister("not frozen", 11, 0);
        rig.dueVideo("bytes 1, 2", 0, 8, 0x2233);
        rig.dueVideo("byte 3", 0, 9, 0x4400);
        rig.dueVideo("ADDRESS", 4, 0, 0x13);
        rig.dueVideo("register 11", 3, 11, 0);
        rig.dueVideo("register 9 stays", 3, 9, 1);
        rig.dueVideo("the source stays", 0, 0, 0x1122);
    }

    private static void copyEdges() {
        // One after the other: a byte that was copied is copied again.
        Rig rig = moving(5, 0, 3).vram(0, 0xA1B2, 0xC3D4, 0xE5F6).register(14, 1).control(1, MOVE).go();
        rig.dueVideo("all are the first", 0, 0, 0xA1A1);
        rig.dueVideo("all are the first", 0, 1, 0xA1A1);
        rig.dueVideo("all are the first", 0, 2, 0xA1A1);
        // From byte 1023 to 0; bit 7 of register 10 counts for nothing; to bytes by register 14.
        rig = moving(2, 0x83FF, 3).vram(511, 0x1234).vram(0, 0x5678).register(14, 3).control(0x3FD, MOVE + 3).go();
        rig.dueVideo("byte 1021", 0, 510, 0x0034);
        rig.dueVideo("byte 1024 is byte 0", 0, 0, 0x5678 & 0xFF | 0x5600);
        rig.dueVideo("CRAM is left alone", 1, 14, 0);
        rig.dueVideo("ADDRESS", 4, 0, 0x403);
        rig.dueVideo("register 10 stays", 3, 10, 0x83);
        rig = moving(2, 0x8401, 3).vram(0, 0x5678, 0x9ABC).register(14, 3).control(0x100, MOVE).go();
        rig.dueVideo("byte 0x401 is byte 1", 0, 128, 0x7800);
        rig.dueVideo("byte 2 to 0x103", 0, 129, 0x009A);
        // 512 bytes.
        rig = moving(0, 0, 3).vram(0, 0x1234).vram(255, 0x5678, 0x9ABC).register(14, 1).control(512, MOVE).go();
        rig.dueVideo("the first", 0, 256, 0x1234);
        rig.dueVideo("the last", 0, 511, 0x5678);
        rig.dueVideo("no more", 0, 0, 0x1234);
        rig.dueVideo("ADDRESS", 4, 0, 1024);
    }

    /** Register 15's two high bits alone tell the kind. */
    private static void kinds() {
        for (int value = 0; value < 256; value += 21) {
            Rig rig = moving(1, 0, 0).register(15, value).vram(4, 0x1234).register(9, 8).control(0, MOVE + 1).start();
            int moved = value < 128 ? 1 : 0;
            rig.steps(15);
            rig.dueRegister("kind of " + value, 11, 2 * moved);
            rig.dueVideo("kind of " + value, 0, 0, value >= 192 ? 0x1200 : 0);
            rig.dueVideo("kind of " + value, 3, 11, value >= 192 ? 0 : 1);
        }
    }

    /** While the main one is frozen, the second does its cycles, lines go on, and interrupts wait. */
    private static void secondAndLinesGoOn() {
        Rig rig = moving(511, 0, 0).register(1, 48).write(Rig.RESET, 256).jump(300, 0).at(440, Rig.NOP)
            .at(300, 0x31FC, 0x4000, Rig.CONTROL, 0x31FC, 0x80, Rig.CONTROL, Rig.NOP);
        rig.start().steps(7 + 2 + 6 + 2);
        int pc = rig.x.register(15);
        rig.dueRegister("frozen", 11, 2);
        rig.x.run(200);
        rig.dueRegister("50 instructions of the second", 15, pc + 50);
        rig.x.run(400);
        rig.dueVideo("level 6 is pending", 4, 3, 6);
        rig.dueRegister("frozen", 11, 2);
        rig.x.run(420);
        rig.dueRegister("frozen", 11, 2);
        rig.dueStep("the last word", 2);
        rig.dueRegister("frozen no more", 11, 0);
        rig.dueStep("the interrupt", 44);
        rig.dueMemory("PC", 636, 312);
    }
}
