/** Promise 5: the main processor's instructions. */
public final class InstructionsTest {
    private static final int N = 8;
    private static final int Z = 4;
    private static final int V = 2;
    private static final int C = 1;

    private InstructionsTest() {
    }

    public static void main(String[] args) {
        everyWord();
        moveQuick();
        moveWords();
        loadsAndStores();
        additions();
        comparisons();
        branches();
        maskAndFlags();
        stack();
        exceptions();
        exceptionThroughThePorts();
        programAtTheEdges();
        Check.end();
    }

    /** The cycles of each word, and how far PC goes, on a processor that was reset. */
    private static void everyWord() {
        int[] cycles = new int[65536];
        int[] behind = new int[65536];
        for (int w = 0; w < 65536; w++) {
            cycles[w] = 34;
            behind[w] = 400;
        }
        for (int n = 0; n < 8; n++) {
            for (int d = 0; d < 256; d++) {
                known(cycles, behind, 0x7000 + 512 * n + d, 4, 130);
            }
            for (int m = 0; m < 8; m++) {
                known(cycles, behind, 0x3000 + 512 * n + m, 4, 130);
                known(cycles, behind, 0xD040 + 512 * n + m, 4, 130);
                known(cycles, behind, 0xB040 + 512 * n + m, 4, 130);
            }
            known(cycles, behind, 0x3038 + 512 * n, 12, 132);
            known(cycles, behind, 0x31C0 + n, 12, 132);
            known(cycles, behind, 0x4E60 + n, 4, 130);
        }
        known(cycles, behind, 0x31FC, 16, 134);
        known(cycles, behind, 0x4E71, 4, 130);
        known(cycles, behind, 0x4E72, 4, 132);
        known(cycles, behind, 0x4E73, 20, 0);
        for (int c = 0; c < 16; c++) {
            boolean taken = c == 0 || c == 4 || c == 6 || c == 10;
            for (int d = -128; d < 128; d++) {
                if (d != 0) {
                    known(cycles, behind, 0x6000 + 256 * c + (d & 255), taken ? 10 : 8, taken ? 130 + d : 130);
                }
            }
        }
        Rig rig = null;
        for (int w = 0; w < 65536; w++) {
            if (w % 64 == 0) {
                rig = new Rig().put(0, 512, 512);
            }
            rig.x.rom(64, w);
            rig.x.reset();
            Check.due("cycles of " + Integer.toHexString(w), rig.x.step(), cycles[w]);
            Check.due("PC behind " + Integer.toHexString(w), rig.x.register(9), behind[w]);
        }
    }

    private static void known(int[] cycles, int[] behind, int w, int its, int pc) {
        cycles[w] = its;
        behind[w] = pc;
    }

    private static void moveQuick() {
        Rig rig = new Rig().put(0x7000, 0x727F, 0x7480, 0x7EFF, 0x7E00).start();
        rig.dueStep("0", 4);
        rig.dueRegister("Z", 10, 0x700 + Z);
        rig.dueStep("127", 4);
        rig.dueRegister("127", 1, 127);
        rig.dueRegister("no flag", 10, 0x700);
        rig.dueStep("-128", 4);
        rig.dueRegister("-128", 2, -128);
        rig.dueRegister("N", 10, 0x700 + N);
        rig.steps(1);
        rig.dueRegister("-1", 7, -1);
        rig.steps(1);
        rig.dueRegister("all 32 bits", 7, 0);
        withFlags(0xF, 0x7201).dueRegister("V and C are 0", 10, 0x700);
    }

    /** Does one instruction, at 300, with flags set before. */
    private static Rig withFlags(int flags, int... words) {
        Rig rig = new Rig().jump(300, 0x700 + flags).at(300, words).start().steps(6);
        rig.dueRegister("flags set", 10, 0x700 + flags);
        rig.dueRegister("at 300", 9, 300);
        return rig.steps(1);
    }

    private static void moveWords() {
        Rig rig = new Rig().put(0x70FF, 0x7205, 0x3001, 0x3600, 0x7400, 0x3002, 0x7C80, 0x3E06).start();
        rig.steps(2);
        rig.dueStep("D0 = D1", 4);
        rig.dueRegister("the low word alone", 0, 0xFFFF0005);
        rig.dueRegister("no flag by the word", 10, 0x700);
        rig.steps(1);
        rig.dueRegister("D3 = D0", 3, 5);
        rig.steps(2);
        rig.dueRegister("0 in the low word", 0, 0xFFFF0000);
        rig.dueRegister("Z by the word", 10, 0x700 + Z);
        rig.steps(2);
        rig.dueRegister("D7 = D6", 7, 0xFF80);
        rig.dueRegister("N by the word", 10, 0x700 + N);
        withFlags(N + V + C, 0x3001).dueRegister("V and C are 0", 10, 0x700 + Z);
    }

    private static void loadsAndStores() {
        Rig rig = new Rig().put(0x70FF).read(0, 2).put(0x31C0, 514).write(516, 0x8001).read(7, 516)
            .write(518, 0).read(2, 640).put(0x31C7, 638).start();
        rig.steps(1);
        rig.dueStep("load", 12);
        rig.dueRegister("from ROM", 0, 0xFFFF0000 + 638);
        rig.dueRegister("no flag", 10, 0x700);
        rig.dueStep("store", 12);
        rig.dueMemory("the low word of D0", 514, 638);
        rig.dueRegister("no flag", 10, 0x700);
        rig.dueStep("store a written word", 16);
        rig.dueMemory("the word", 516, 0x8001);
        rig.dueRegister("N", 10, 0x700 + N);
        rig.dueStep("load", 12);
        rig.dueRegister("from RAM", 7, 0x8001);
        rig.dueRegister("N", 10, 0x700 + N);
        rig.dueStep("store 0", 16);
        rig.dueRegister("Z", 10, 0x700 + Z);
        rig.dueStep("load", 12);
        rig.dueRegister("0 behind RAM", 2, 0);
        rig.dueRegister("Z", 10, 0x700 + Z);
        rig.dueStep("store", 12);
        rig.dueMemory("the last word of RAM", 638, 0x8001);
        rig.dueRegister("N", 10, 0x700 + N);
        int[][] all = {{0x3038, 512}, {0x31C5, 512}, {0x31FC, 0, 512}};
        for (int[] words : all) {
            withFlags(N + V + C, words).dueRegister("V and C are 0", 10, 0x700 + Z);
        }
    }

    private static void additions() {
        int[][] cases = {
            {1, 2, 3, 0}, {0, 0, 0, Z}, {0xFFFF, 1, 0, Z + C}, {0x7FFF, 1, 0x8000, N + V},
            {0x8000, 0x8000, 0, Z + V + C}, {0x8000, 0xFFFF, 0x7FFF, V + C}, {0xFFFF, 0xFFFF, 0xFFFE, N + C},
            {0x8000, 1, 0x8001, N}, {0x4000, 0x3FFF, 0x7FFF, 0}, {0xFFFF, 0x7FFF, 0x7FFE, C},
            {0xFFFE, 1, 0xFFFF, N}};
        for (int[] one : cases) {
            Rig rig = new Rig().put(0x76FF).write(512, one[0]).write(514, one[1]).read(3, 512).read(5, 514)
                .put(0xD645).start();
            rig.steps(5);
            rig.dueStep("add", 4);
            String what = one[0] + " + " + one[1];
            rig.dueRegister(what, 3, 0xFFFF0000 + one[2]);
            rig.dueRegister(what + " leaves the other", 5, one[1]);
            rig.dueRegister(what, 10, 0x700 + one[3]);
        }
        Rig rig = new Rig().put(0x7040, 0xD040, 0xD040).start().steps(3);
        rig.dueRegister("to itself", 0, 256);
    }

    private static void comparisons() {
        int[][] cases = {
            {3, 2, 0}, {2, 3, N + C}, {5, 5, Z}, {0, 0x8000, N + V + C}, {0x8000, 1, V}, {0x7FFF, 0xFFFF, N + V + C},
            {0xFFFF, 0xFFFE, 0}, {0xFFFE, 0xFFFF, N + C}, {0, 0xFFFF, C}, {0xFFFF, 0, N}, {0x8000, 0x7FFF, V}};
        for (int[] one : cases) {
            Rig rig = new Rig().put(0x7CFF).write(512, one[0]).write(514, one[1]).read(6, 512).read(1, 514)
                .put(0xBC41).start();
            rig.steps(5);
            rig.dueStep("compare", 4);
            String what = one[0] + " - " + one[1];
            rig.dueRegister(what + " leaves it", 6, 0xFFFF0000 + one[0]);
            rig.dueRegister(what + " leaves the other", 1, one[1]);
            rig.dueRegister(what, 10, 0x700 + one[2]);
        }
        Rig rig = new Rig().put(0x7E09, 0x7C05, 0xBE46, 0xBC47).start().steps(3);
        rig.dueRegister("D7 - D6", 10, 0x700);
        rig.steps(1);
        rig.dueRegister("D6 - D7", 10, 0x700 + N + C);
    }

    private static void branches() {
        for (int flags = 0; flags < 16; flags++) {
            for (int c = 0; c < 16; c++) {
                boolean n = flags >= 8;
                boolean z = flags / 4 % 2 == 1;
                boolean carry = flags % 2 == 1;
                boolean taken = c == 0 || c == 7 && z || c == 6 && !z || c == 5 && carry || c == 4 && !carry
                    || c == 11 && n || c == 10 && !n;
                Rig rig = withFlags(flags, 0x6010 + 256 * c);
                rig.dueRegister("branch " + c + " with flags " + flags, 9, taken ? 318 : 302);
                rig.dueRegister("flags stay", 10, 0x700 + flags);
            }
        }
        Rig rig = new Rig().put(0x607F).start();
        rig.dueStep("far ahead", 10);
        rig.dueRegister("far ahead, odd", 9, 130 + 127);
        rig.dueStep("odd", 34);
        rig.dueRegister("vector 4", 9, 400);
        rig = new Rig().put(0x6080).start().steps(1);
        rig.dueRegister("far back", 9, 2);
        TwinConsole x = new TwinConsole();
        x.rom(0, 0x6080);
        Check.due("back over 0", x.step(), 10);
        Check.due("PC counts modulo 65536", x.register(9), 65536 + 2 - 128);
        Check.due("0 is read there", x.step(), 34);
        rig = new Rig().put(0x6600).start();
        rig.dueStep("distance 0 can't be done", 34);
    }

    private static void maskAndFlags() {
        Rig rig = new Rig().put(Rig.STOP, 0xF8F0).start();
        rig.dueStep("wait", 4);
        rig.dueRegister("only three bits and the flags", 10, 0);
        rig.dueRegister("waits", 11, 1);
        rig.dueRegister("PC is behind", 9, 132);
        rig.dueStep("waiting", 4);
        rig.dueRegister("PC stays", 9, 132);
        rig = new Rig().put(Rig.STOP, 0x50A).start().steps(1);
        rig.dueRegister("MASK 5, N, V", 10, 0x50A);
        rig = new Rig().put(Rig.STOP, 0x205).start().steps(1);
        rig.dueRegister("MASK 2, Z, C", 10, 0x205);
    }

    private static void stack() {
        Rig rig = new Rig().put(0x70FF).read(0, 300).put(0x4E60, 0x7200, 0x4E61).at(300, 620).start().steps(2);
        rig.dueStep("S", 4);
        rig.dueRegister("S is the low word", 8, 620);
        rig.dueRegister("flags stay", 10, 0x700);
        rig.steps(2);
        rig.dueRegister("S is D1", 8, 0);

        rig = new Rig().write(620, 0xF8F5).write(622, 0x1234).write(624, 302).stackAt(620).put(Rig.RTE).start();
        rig.steps(6);
        rig.dueStep("back", 20);
        rig.dueRegister("MASK and flags", 10, 5);
        rig.dueRegister("PC", 9, 302);
        rig.dueRegister("S", 8, 626);

        rig = new Rig().stackAt(65534).put(Rig.RTE).at(0, 0x321, 0x456).start().steps(3);
        rig.dueStep("back over the end", 20);
        rig.dueRegister("0 read at 65534", 10, 0);
        rig.dueRegister("PC from the word at 2", 9, 0x456);
        rig.dueRegister("S counts modulo 65536", 8, 4);

        rig = new Rig().write(620, 0x505).write(624, 302).stackAt(621).put(Rig.RTE).start().steps(6);
        rig.dueRegister("odd S: 0 is read", 10, 0);
        rig.dueRegister("odd S: 0 is read", 9, 0);
        rig.dueRegister("odd S: S", 8, 627);

        // The stack is read quietly: STATUS would end waiting for a word, POSITION would not be 0.
        rig = new Rig().stackAt(1028).write(Rig.CONTROL, 0x4000).put(Rig.RTE).start().steps(5);
        rig.dueRegister("0 read at CONTROL", 10, 0);
        rig.dueRegister("0 read at POSITION", 9, 0);
        rig.dueVideo("a word is waited for still", 4, 2, 1);
    }

    private static void exceptions() {
        Rig rig = new Rig().put(0x70FF, 0xFFFF).write(512, 1).start().steps(1);
        rig.at(400, 0x4AFC);
        rig.dueStep("can't be done", 34);
        rig.dueMemory("MASK and flags", 632, 0x708);
        rig.dueMemory("0", 634, 0);
        rig.dueMemory("PC of the word", 636, 130);
        rig.dueRegister("S", 8, 632);
        rig.dueRegister("PC", 9, 400);
        rig.dueRegister("MASK and flags stay", 10, 0x708);
        rig.dueStep("another", 34);
        rig.dueMemory("PC of the word", 630, 400);
        rig.dueRegister("S", 8, 626);

        rig = new Rig().write(634, 99).put(0x7003, 0x4E60, 0x4AFC).start().steps(3);
        rig.dueRegister("odd S", 8, 3);
        rig.dueStep("odd S", 34);
        rig.dueRegister("S counts modulo 65536", 8, 65533);
        rig.dueMemory("nothing written", 634, 99);

        rig = new Rig().write(614, 97).write(616, 98).write(618, 99).stackAt(621).put(0x4AFC).start().steps(7);
        rig.dueMemory("odd S in RAM: nothing written", 614, 97);
        rig.dueMemory("odd S in RAM: nothing written", 616, 98);
        rig.dueMemory("odd S in RAM: nothing written", 618, 99);
        rig.dueRegister("S", 8, 615);

        rig = new Rig().write(634, 99).put(0x4AFC).start().steps(2);
        rig.dueMemory("0 is written", 634, 0);
    }

    /** With S = 1030, DATA gets MASK and flags first, then CONTROL gets PC. */
    private static void exceptionThroughThePorts() {
        Rig rig = new Rig().control(6, Rig.VRAM).register(14, 4).write(Rig.CONTROL, 0x4006).stackAt(1030).start();
        rig.steps(7);
        rig.dueVideo("a word is waited for", 4, 2, 1);
        rig.dueRegister("S", 8, 1030);
        int at = rig.x.register(9);
        rig.dueStep("can't be done", 34);
        rig.dueVideo("DATA is written", 0, 3, 0x700);
        rig.dueVideo("CONTROL is written then: ADDRESS", 4, 0, at);
        rig.dueVideo("CODE", 4, 1, 0);
        rig.dueVideo("it was a first word", 4, 2, 1);
        rig.dueRegister("S", 8, 1024);

        // BUSREQ gets MASK and flags, RESET gets PC.
        rig = new Rig().stackAt(1046).put(0x6064).start().steps(4);
        rig.dueRegister("in RESET", 16, 16);
        rig.dueRegister("PC below 256", 9, 242);
        rig.dueStep("can't be done", 34);
        rig.dueRegister("HELD by MASK's bit 8, in RESET still", 16, 16 + 8);
        rig.dueStep("again, at 400: S was 1040, so nothing is told", 34);
        rig.dueRegister("as before", 16, 16 + 8);
    }

    private static void programAtTheEdges() {
        Rig rig = new Rig().at(6, 510).at(510, 0x31FC).start();
        rig.dueStep("words behind ROM are in RAM", 16);
        rig.dueRegister("PC", 9, 516);

        rig = new Rig().write(512, 0x7005).jump(512, 0).start().steps(7);
        rig.dueRegister("a program in RAM", 9, 512);
        rig.dueStep("D0 = 5", 4);
        rig.dueRegister("D0", 0, 5);

        // The second's RAM may hold a program while it is in RESET; each byte is in both halves.
        rig = new Rig().write(768, 0x7000).jump(768, 0).start().steps(7);
        rig.dueRegister("in the second's RAM", 9, 768);
        rig.dueStep("0x7070", 4);
        rig.dueRegister("D0", 0, 0x70);

        // Instructions are read quietly: the ports give 0 and keep what they wait for.
        rig = new Rig().write(Rig.CONTROL, 0x4000).jump(1028, 0).start().steps(7);
        rig.dueRegister("at CONTROL", 9, 1028);
        rig.dueStep("0 is read", 34);
        rig.dueVideo("a word is waited for still", 4, 2, 1);

        rig = new Rig().jump(65534, 0).start().steps(6);
        rig.dueStep("0 at the last word", 34);
        rig.dueMemory("PC", 636, 65534);
    }
}
