/** Promise 5: the main processor's instructions. */
public final class InstructionsTest {
    private static final int N = 8;
    private static final int Z = 4;
    private static final int V = 2;
    private static final int C = 1;

    private InstructionsTest() {
    }

    public static void main(String[] args) {
        Check.that("An INSTRUCTION, a word at PC, then words behind it (cycles in brackets)", InstructionsTest::everyWord);
        Check.that("Others: an EXCEPTION with vector 4 [34].", InstructionsTest::wordsBesideTheKnown);
        Check.that("(d below 256): Dn = d with its sign; N, Z, V = C = 0 [4].", InstructionsTest::quickBytes);
        Check.that("the low word of Dn = that of Dm; N, Z of the word, V = C = 0 [4].", InstructionsTest::moveWords);
        Check.that("an address: the low word of Dn = the word there, flags alike [12].", InstructionsTest::loads);
        Check.that("an address: the word there = Dm's low one, flags alike [12].", InstructionsTest::stores);
        Check.that("0x31FC, a word, an address: alike with the word [16].", InstructionsTest::storesOfAWord);
        Check.that("low words: Dn + Dm; N, Z, V (signed overflow), C (carry) [4].", InstructionsTest::additions);
        Check.that("flags of Dn - Dm (C: borrow), words [4].", InstructionsTest::comparisons);
        Check.that("if c is 0, or c is 7 and Z, 6 and not Z, 5 and C, 4 and not C, 11 and N, 10 and not N",
            InstructionsTest::conditions);
        Check.that("else (also for other c) nothing [8].", InstructionsTest::otherConditions);
        Check.that("d a byte with its sign", InstructionsTest::distances);
        Check.that("not 0", InstructionsTest::distanceZero);
        Check.that("0x4E71: nothing [4].", InstructionsTest::nothing);
        Check.that("back: MASK and flags from the word at S, PC from that at S + 4, S grows by 6 [20].", InstructionsTest::back);
        Check.that("(MASK, three bits, * 256 + 8 N + 4 Z + 2 V + C; others count for nothing)", InstructionsTest::backsOtherBits);
        Check.that("PC from that at S + 4, S grows by 6 (odd S)", InstructionsTest::backWithOddStack);
        Check.that("(PC and S count modulo 65536.) (S upwards)", InstructionsTest::backOverTheEnd);
        Check.that("0x4E72, a word: MASK and flags from it, then it WAITS for an interrupt [4].", InstructionsTest::waiting);
        Check.that("S = the low word of Dn [4].", InstructionsTest::stackPointer);
        Check.that("(PC and S count modulo 65536.) (PC downwards)", InstructionsTest::branchBelowZero);
        Check.that("a word at PC, then words behind it (over the end of ROM)", InstructionsTest::overTheEndOfRom);
        Check.that("a word at PC (in RAM, in the second's RAM, beyond)", InstructionsTest::programsElsewhere);
        Check.end();
    }

    /** Does one instruction, at 300, with flags set before. */
    private static Rig withFlags(int flags, int... words) {
        Rig rig = new Rig().jump(300, 0x700 + flags).at(300, words).start().steps(6);
        rig.dueRegister("flags set", 10, 0x700 + flags);
        rig.dueRegister("at 300", 9, 300);
        return rig.steps(1);
    }

    /** The cycles of each word, and how far PC goes, on a processor that was reset. */
    private static void everyWord() {
        int[] cycles = new int[65536];
        int[] behind = new int[65536];
        for (int w = 0; w < 65536; w++) {
            cycles[w] = 34;
            behind[w] = 400;
        }
        for (int n = 0; n < 8; n++) {
            for (int d = 0; d < 256; d++) {
                known(cycles, behind, 0x7000 + 512 * n + d, 4, 130);
            }
            for (int m = 0; m < 8; m++) {
                known(cycles, behind, 0x3000 + 512 * n + m, 4, 130);
                known(cycles, behind, 0xD040 + 512 * n + m, 4, 130);
                known(cycles, behind, 0xB040 + 512 * n + m, 4, 130);
            }
            known(cycles, behind, 0x3038 + 512 * n, 12, 132);
            known(cycles, behind, 0x31C0 + n, 12, 132);
            known(cycles, behind, 0x4E60 + n, 4, 130);
        }
        known(cycles, behind, 0x31FC, 16, 134);
        known(cycles, behind, 0x4E71, 4, 130);
        known(cycles, behind, 0x4E72, 4, 132);
        known(cycles, behind, 0x4E73, 20, 0);
        for (int c = 0; c < 16; c++) {
            boolean taken = c == 0 || c == 4 || c == 6 || c == 10;
            for (int d = -128; d < 128; d++) {
                if (d != 0) {
                    known(cycles, behind, 0x6000 + 256 * c + (d & 255), taken ? 10 : 8, taken ? 130 + d : 130);
                }
            }
        }
        Rig rig = null;
        for (int w = 0; w < 65536; w++) {
            if (w % 64 == 0) {
                rig = new Rig().put(0, 512, 512);
            }
            rig.x.rom(64, w);
            rig.x.reset();
            Check.due("cycles of " + Integer.toHexString(w), rig.x.step(), cycles[w]);
            Check.due("PC behind " + Integer.toHexString(w), rig.x.register(9), behind[w]);
        }
    }

    private static void known(int[] cycles, int[] behind, int w, int its, int pc) {
        cycles[w] = its;
        behind[w] = pc;
    }

    /** One below and one above each form; D0 .. D7, S and RAM stay but for what an exception does. */
    private static void wordsBesideTheKnown() {
        int[] words = {0x0000, 0x2FFF, 0x3008, 0x3037, 0x3039, 0x3040, 0x31BF, 0x31C8, 0x31FB, 0x31FD, 0x3FFF, 0x4E5F,
            0x4E68, 0x4E70, 0x4E74, 0x5FFF, 0x6000, 0x6F00, 0x7100, 0x71FF, 0x7F00, 0x7FFF, 0x8000, 0xB03F, 0xB048,
            0xBFFF, 0xC040, 0xD03F, 0xD048, 0xDFFF, 0xE000, 0xFFFF};
        for (int w : words) {
            Rig rig = new Rig().put(0x7005, 0x7206, w, 512, 514).start().steps(2);
            rig.dueStep("word " + Integer.toHexString(w), 34);
            rig.dueRegister("vector 4", 9, 400);
            rig.dueMemory("its address", 636, 132);
            rig.dueRegister("D0", 0, 5);
            rig.dueRegister("D1", 1, 6);
            rig.dueRegister("flags", 10, 0x700);
            rig.dueRegister("it doesn't wait", 11, 0);
            rig.dueMemory("nothing written", 512, 0);
        }
    }

    private static void quickBytes() {
        int[][] cases = {{0, 0, Z}, {1, 1, 0}, {127, 127, 0}, {128, -128, N}, {255, -1, N}};
        for (int[] one : cases) {
            for (int n = 0; n < 8; n++) {
                Rig rig = new Rig().put(0x7055 + 512 * n, 0x7000 + 512 * n + one[0]).start().steps(1);
                rig.dueStep("byte " + one[0], 4);
                rig.dueRegister("all 32 bits", n, one[1]);
                rig.dueRegister("flags", 10, 0x700 + one[2]);
            }
            withFlags(N + Z + V + C, 0x7200 + one[0]).dueRegister("V and C are 0", 10, 0x700 + one[2]);
        }
    }

    private static void moveWords() {
        Rig rig = new Rig().put(0x70FF, 0x7205, 0x3001, 0x3600, 0x7400, 0x3002, 0x7C80, 0x3E06).start();
        rig.steps(2);
        rig.dueStep("D0 = D1", 4);
        rig.dueRegister("the low word alone", 0, 0xFFFF0005);
        rig.dueRegister("no flag by the word", 10, 0x700);
        rig.steps(1);
        rig.dueRegister("D3 = D0", 3, 5);
        rig.steps(2);
        rig.dueRegister("0 in the low word", 0, 0xFFFF0000);
        rig.dueRegister("Z by the word", 10, 0x700 + Z);
        rig.steps(2);
        rig.dueRegister("D7 = D6", 7, 0xFF80);
        rig.dueRegister("N by the word", 10, 0x700 + N);
        withFlags(N + V + C, 0x3001).dueRegister("V and C are 0", 10, 0x700 + Z);
    }

    private static void loads() {
        int[][] cases = {{0, Z}, {1, 0}, {0x7FFF, 0}, {0x8000, N}, {0xFFFF, N}};
        for (int[] one : cases) {
            for (int n = 0; n < 8; n++) {
                Rig rig = new Rig().put(0x70FF + 512 * n).read(n, 300).at(300, one[0]).start().steps(1);
                rig.dueStep("load", 12);
                rig.dueRegister("the low word alone", n, 0xFFFF0000 + one[0]);
                rig.dueRegister("flags", 10, 0x700 + one[1]);
            }
        }
        withFlags(N + V + C, 0x3038, 512).dueRegister("V and C are 0", 10, 0x700 + Z);
    }

    private static void stores() {
        int[][] cases = {{0, Z}, {1, 0}, {0x7FFF, 0}, {0x8000, N}, {0xFFFF, N}};
        for (int[] one : cases) {
            for (int m = 0; m < 8; m++) {
                Rig rig = new Rig().put(0x70FF + 512 * m).read(m, 300).put(0x31C0 + m, 514).at(300, one[0]).start();
                rig.steps(2);
                rig.dueStep("store", 12);
                rig.dueMemory("the low word", 514, one[0]);
                rig.dueRegister("it stays", m, 0xFFFF0000 + one[0]);
                rig.dueRegister("flags", 10, 0x700 + one[1]);
            }
        }
        withFlags(N + V + C, 0x31C5, 512).dueRegister("V and C are 0", 10, 0x700 + Z);
    }

    private static void storesOfAWord() {
        int[][] cases = {{0, Z}, {1, 0}, {0x7FFF, 0}, {0x8000, N}, {0xFFFF, N}};
        for (int[] one : cases) {
            Rig rig = new Rig().put(0x31FC, one[0], 514).start();
            rig.dueStep("store", 16);
            rig.dueMemory("the word", 514, one[0]);
            rig.dueRegister("flags", 10, 0x700 + one[1]);
            rig.dueRegister("PC behind both words", 9, 134);
        }
        withFlags(N + V + C, 0x31FC, 0, 512).dueRegister("V and C are 0", 10, 0x700 + Z);
    }

    private static void additions() {
        int[][] cases = {
            {1, 2, 3, 0}, {0, 0, 0, Z}, {0xFFFF, 1, 0, Z + C}, {0x7FFF, 1, 0x8000, N + V},
            {0x8000, 0x8000, 0, Z + V + C}, {0x8000, 0xFFFF, 0x7FFF, V + C}, {0xFFFF, 0xFFFF, 0xFFFE, N + C},
            {0x8000, 1, 0x8001, N}, {0x4000, 0x3FFF, 0x7FFF, 0}, {0xFFFF, 0x7FFF, 0x7FFE, C},
            {0xFFFE, 1, 0xFFFF, N}, {0x7FFF, 0x7FFF, 0xFFFE, N + V}, {0x8000, 0x7FFF, 0xFFFF, N}};
        for (int[] one : cases) {
            Rig rig = new Rig().put(0x76FF).write(512, one[0]).write(514, one[1]).read(3, 512).read(5, 514)
                .put(0xD645).start();
            rig.steps(5);
            rig.dueStep("add", 4);
            String what = one[0] + " + " + one[1];
            rig.dueRegister(what + ", the low word alone", 3, 0xFFFF0000 + one[2]);
            rig.dueRegister(what + " leaves the other", 5, one[1]);
            rig.dueRegister(what, 10, 0x700 + one[3]);
        }
        Rig rig = new Rig().put(0x7040, 0xD040, 0xD040).start().steps(3);
        rig.dueRegister("to itself", 0, 256);
    }

    private static void comparisons() {
        int[][] cases = {
            {3, 2, 0}, {2, 3, N + C}, {5, 5, Z}, {0, 0x8000, N + V + C}, {0x8000, 1, V}, {0x7FFF, 0xFFFF, N + V + C},
            {0xFFFF, 0xFFFE, 0}, {0xFFFE, 0xFFFF, N + C}, {0, 0xFFFF, C}, {0xFFFF, 0, N}, {0x8000, 0x7FFF, V},
            {0x7FFF, 0x8000, N + V + C}, {0x8000, 0x8000, Z}, {0, 0, Z}};
        for (int[] one : cases) {
            Rig rig = new Rig().put(0x7CFF).write(512, one[0]).write(514, one[1]).read(6, 512).read(1, 514)
                .put(0xBC41).start();
            rig.steps(5);
            rig.dueStep("compare", 4);
            String what = one[0] + " - " + one[1];
            rig.dueRegister(what + " leaves it", 6, 0xFFFF0000 + one[0]);
            rig.dueRegister(what + " leaves the other", 1, one[1]);
            rig.dueRegister(what, 10, 0x700 + one[2]);
        }
        Rig rig = new Rig().put(0x7E09, 0x7C05, 0xBE46, 0xBC47).start().steps(3);
        rig.dueRegister("D7 - D6", 10, 0x700);
        rig.steps(1);
        rig.dueRegister("D6 - D7", 10, 0x700 + N + C);
    }

    private static void conditions() {
        int[] known = {0, 4, 5, 6, 7, 10, 11};
        for (int flags = 0; flags < 16; flags++) {
            boolean n = flags >= 8;
            boolean z = flags / 4 % 2 == 1;
            boolean carry = flags % 2 == 1;
            boolean[] taken = {true, !carry, carry, !z, z, !n, n};
            for (int k = 0; k < known.length; k++) {
                Rig rig = withFlags(flags, 0x6010 + 256 * known[k]);
                rig.dueRegister("branch " + known[k] + " with flags " + flags, 9, taken[k] ? 318 : 302);
                rig.dueRegister("flags stay", 10, 0x700 + flags);
            }
        }
    }

    private static void otherConditions() {
        int[] others = {1, 2, 3, 8, 9, 12, 13, 14, 15};
        for (int c : others) {
            for (int flags = 0; flags < 16; flags++) {
                Rig rig = withFlags(flags, Rig.NOP, 0x6010 + 256 * c);
                rig.dueStep("c is " + c, 8);
                rig.dueRegister("not taken with flags " + flags, 9, 304);
                rig.dueRegister("flags stay", 10, 0x700 + flags);
            }
        }
        Rig rig = new Rig().put(0x7000, 0x6610).start().steps(1);
        rig.dueStep("not Z, but Z is 1", 8);
        rig.dueRegister("PC", 9, 132);
    }

    private static void distances() {
        int[][] cases = {{1, 131}, {2, 132}, {127, 257}, {128, 2}, {129, 3}, {254, 128}, {255, 129}};
        for (int[] one : cases) {
            Rig rig = new Rig().put(0x6000 + one[0]).start();
            rig.dueStep("by " + one[0], 10);
            rig.dueRegister("from behind it", 9, one[1]);
        }
        Rig rig = new Rig().put(0x607F).start().steps(1);
        rig.dueStep("0 is read at an odd PC", 34);
    }

    private static void distanceZero() {
        for (int c = 0; c < 16; c++) {
            Rig rig = new Rig().put(0x6000 + 256 * c).start();
            rig.dueStep("distance 0", 34);
            rig.dueRegister("vector 4", 9, 400);
            rig.dueMemory("its own address", 636, 128);
        }
    }

    private static void nothing() {
        Rig rig = withFlags(N + Z + V + C, Rig.NOP);
        rig.dueRegister("flags stay", 10, 0x70F);
        rig.dueRegister("PC", 9, 302);
        rig.dueRegister("S", 8, 638);
    }

    private static void back() {
        Rig rig = new Rig().write(620, 0x050A).write(622, 0x1234).write(624, 302).stackAt(620).put(Rig.RTE).start();
        rig.steps(6);
        rig.dueStep("back", 20);
        rig.dueRegister("MASK and flags", 10, 0x50A);
        rig.dueRegister("PC", 9, 302);
        rig.dueRegister("S", 8, 626);
        rig.dueMemory("the stack stays", 620, 0x050A);
    }

    private static void backsOtherBits() {
        int[][] cases = {{0xF8F0, 0}, {0xFFFF, 0x70F}, {0x0100, 0x100}, {0x0400, 0x400}, {0x0800, 0}, {0x0010, 0},
            {0x0008, 8}, {0x0001, 1}, {0xF8F5, 5}};
        for (int[] one : cases) {
            Rig rig = new Rig().jump(300, one[0]).start().steps(6);
            rig.dueRegister("of " + Integer.toHexString(one[0]), 10, one[1]);
            rig.dueRegister("PC", 9, 300);
        }
    }

    private static void backWithOddStack() {
        Rig rig = new Rig().write(620, 0x505).write(624, 302).stackAt(621).put(Rig.RTE).start().steps(6);
        rig.dueRegister("0 is read", 10, 0);
        rig.dueRegister("0 is read", 9, 0);
        rig.dueRegister("S", 8, 627);
    }

    private static void backOverTheEnd() {
        Rig rig = new Rig().stackAt(65534).put(Rig.RTE).at(0, 0x321, 0x456).start().steps(3);
        rig.dueStep("back", 20);
        rig.dueRegister("0 read at 65534", 10, 0);
        rig.dueRegister("PC from the word at 2", 9, 0x456);
        rig.dueRegister("S", 8, 4);
        rig = new Rig().stackAt(65530).put(Rig.RTE).at(0, 0x321, 0x456).start().steps(4);
        rig.dueRegister("0 read at 65534", 9, 0);
        rig.dueRegister("S is 65536", 8, 0);
        rig = new Rig().stackAt(65532).put(Rig.RTE).at(0, 0x322, 0x456).start().steps(4);
        rig.dueRegister("PC from the word at 0", 9, 0x322);
        rig.dueRegister("S", 8, 2);
    }

    private static void waiting() {
        int[][] cases = {{0xF8F0, 0}, {0xFFFF, 0x70F}, {0x050A, 0x50A}, {0x0205, 0x205}};
        for (int[] one : cases) {
            Rig rig = new Rig().put(Rig.STOP, one[0]).start();
            rig.dueStep("wait", 4);
            rig.dueRegister("only three bits and the flags", 10, one[1]);
            rig.dueRegister("waits", 11, 1);
            rig.dueRegister("PC is behind", 9, 132);
            rig.dueStep("waiting", 4);
            rig.dueRegister("PC stays", 9, 132);
            rig.dueRegister("MASK and flags stay", 10, one[1]);
        }
    }

    private static void stackPointer() {
        for (int n = 0; n < 8; n++) {
            Rig rig = new Rig().put(0x70FF + 512 * n).read(n, 300).put(0x4E60 + n).at(300, 620).start().steps(2);
            rig.dueStep("S", 4);
            rig.dueRegister("the low word", 8, 620);
            rig.dueRegister("flags stay", 10, 0x700);
            rig.dueRegister("Dn stays", n, 0xFFFF0000 + 620);
        }
        Rig rig = new Rig().put(0x70FF, 0x4E60, 0x7200, 0x4E61).start().steps(2);
        rig.dueRegister("the largest", 8, 65535);
        rig.steps(2);
        rig.dueRegister("the smallest", 8, 0);
    }

    private static void branchBelowZero() {
        TwinConsole x = new TwinConsole();
        x.rom(0, 0x6080);
        Check.due("back over 0", x.step(), 10);
        Check.due("PC", x.register(9), 65536 + 2 - 128);
        Check.due("0 is read there", x.step(), 34);
        x = new TwinConsole();
        x.rom(0, 0x60FC);
        x.step();
        Check.due("the last word", x.register(9), 65534);
    }

    private static void overTheEndOfRom() {
        Rig rig = new Rig().at(6, 510).at(510, 0x31FC).start();
        rig.dueStep("its words are in RAM", 16);
        rig.dueRegister("PC", 9, 516);
        rig = new Rig().write(512, 0x30F).at(510, Rig.STOP).jump(510, 0).start().steps(8);
        rig.dueRegister("MASK and flags from RAM", 10, 0x30F);
        rig.dueRegister("PC", 9, 514);
    }

    private static void programsElsewhere() {
        Rig rig = new Rig().write(512, 0x7005).jump(512, 0).start().steps(7);
        rig.dueRegister("a program in RAM", 9, 512);
        rig.dueStep("D0 = 5", 4);
        rig.dueRegister("D0", 0, 5);
        // The second's RAM may hold a program while it is in RESET; each byte is in both halves.
        rig = new Rig().write(768, 0x7000).jump(768, 0).start().steps(7);
        rig.dueRegister("in the second's RAM", 9, 768);
        rig.dueStep("0x7070", 4);
        rig.dueRegister("D0", 0, 0x70);
        // Behind RAM's last word there is 0.
        rig = new Rig().write(638, Rig.STOP).jump(638, 0).start().steps(7);
        rig.dueRegister("at RAM's last word", 9, 638);
        rig.dueStep("its second word is 0", 4);
        rig.dueRegister("MASK and flags", 10, 0);
        rig.dueRegister("PC", 9, 642);
        rig = new Rig().jump(65534, 0).start().steps(6);
        rig.dueStep("0 at the last word", 34);
        rig.dueMemory("its address", 636, 65534);
    }
}
