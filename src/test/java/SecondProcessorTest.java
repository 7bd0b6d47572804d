/** Promise 5: the second processor. */
public final class SecondProcessorTest {
    private SecondProcessorTest() {
    }

    public static void main(String[] args) {
        everyCost();
        costsOfJumps();
        costsInRom();
        loadsAndMoves();
        counting();
        memoryBytes();
        romBytes();
        branches();
        jumpsAndHalts();
        addressesWrap();
        interruptsLetIn();
        interruptCycles();
        interruptsNotTaken();
        held();
        resets();
        owes();
        elevensAreNotGiven();
        Check.end();
    }

    private static Rig seeded(int at, int... bytes) {
        Rig rig = new Rig();
        seed(rig, at, bytes);
        return rig;
    }

    private static void seed(Rig rig, int at, int... bytes) {
        for (int k = 0; k < bytes.length; k++) {
            rig.x.seed(at + k, bytes[k]);
        }
    }

    /** Out of RESET (16 cycles are given), then nothing but steps of four cycles. */
    private static Rig out(Rig rig) {
        return rig.write(Rig.RESET, 256).put(Rig.STOP, 0x700).start().steps(1);
    }

    /** Each byte's cycles: of bytes in a row so many are done as have begun with a cycle left. */
    private static void everyCost() {
        for (int op = 0; op < 256; op++) {
            boolean jumps = op == 0x20 || op == 0xC3 || op == 0xC9 || op == 0x76;
            if (jumps) {
                continue;
            }
            int length = op == 0x3E ? 2 : op == 0x32 || op == 0x3A ? 3 : 1;
            int cost = op == 0x3E ? 7 : length == 3 ? 13 : 4;
            Rig rig = new Rig();
            for (int k = 0; k < 40; k++) {
                rig.x.seed(length * k, op);
            }
            out(rig);
            for (int given = 16; given < 60; given += 4) {
                int done = (given + cost - 1) / cost;
                rig.dueRegister("byte " + op + " with " + given + " cycles", 15, length * done);
                rig.steps(1);
            }
        }
    }

    private static void costsOfJumps() {
        Rig jumps = new Rig();
        Rig taken = new Rig();
        Rig notTaken = seeded(0, 0x3E, 1, 0x3D);
        for (int k = 0; k < 40; k++) {
            seed(jumps, 3 * k, 0xC3, 3 * k + 3, 0);
            seed(taken, 2 * k, 0x20, 0);
            seed(notTaken, 3 + 2 * k, 0x20, 0x30);
        }
        Rig back = seeded(0, 0x3C, 0xC9);
        out(jumps);
        out(taken);
        out(notTaken);
        out(back);
        for (int given = 16; given < 100; given += 4) {
            jumps.dueRegister("jumps with " + given, 15, 3 * ((given + 9) / 10));
            taken.dueRegister("branches with " + given, 15, 2 * ((given + 11) / 12));
            notTaken.dueRegister("branches by Z with " + given, 15, 3 + 2 * ((given - 11 + 6) / 7));
            // A + 1 of 4 cycles, then PC from H, of 10.
            back.dueRegister("rounds begun with " + given, 12, (given + 13) / 14);
            back.dueRegister("rounds ended with " + given, 15, given % 14 > 0 && given % 14 <= 4 ? 1 : 0);
            jumps.steps(1);
            taken.steps(1);
            notTaken.steps(1);
            back.steps(1);
        }
    }

    /** In ROM each byte costs 3 more, and the main one 11 at its next instruction. */
    private static void costsInRom() {
        costInRom("nothing", 0x0000, 1, 4);
        costInRom("A = n", 0x3E3E, 2, 7);
        costInRom("B = A", 0x4747, 1, 4);
        costInRom("A + 1", 0x3C3C, 1, 4);
        costInRom("write to ROM", 0x3232, 0, 0);
    }

    private static void costInRom(String what, int w, int length, int cost) {
        Rig rig = seeded(0, 0xC3, 0, 0x81);
        for (int k = 128; k < 200; k++) {
            if (length == 0) {
                rig.x.rom(k, k % 3 == 0 ? 0x3200 : k % 3 == 1 ? 0x9032 : 0x0090);
            } else {
                rig.x.rom(k, w);
            }
        }
        int bytes = length == 0 ? 3 : length;
        int all = length == 0 ? 13 + 9 : cost + 3 * length;
        if (length == 0) {
            // 128 % 3 is 2: the row begins one word later.
            rig.x.seed(1, 2);
        }
        int start = length == 0 ? 0x8102 : 0x8100;
        rig.write(Rig.RESET, 256).put(Rig.NOP, 0x60FC).start().steps(1);
        int given = 6;
        int paid = 0;
        for (int k = 0; k < 20; k++) {
            int done = (given + all - 1) / all;
            rig.dueRegister(what + " in ROM with " + given + " cycles", 15, start + bytes * done);
            int base = k % 2 == 0 ? 4 : 10;
            rig.dueStep(what + " in ROM", base + 11 * (bytes * done - paid));
            paid = bytes * done;
            given += base;
        }
    }

    private static void loadsAndMoves() {
        Rig rig = out(seeded(0, 0x3E, 0xFE, 0x47, 0x3E, 7, 0x67, 0x78, 0x76));
        rig.x.run(60);
        rig.dueRegister("A = B", 12, 0xFE);
        rig.dueRegister("B = A", 13, 0xFE);
        rig.dueRegister("H = A", 14, 7);
        rig.dueRegister("PC behind HALT", 15, 8);
        rig.dueRegister("HALTED, Z as it was", 16, 2);
        rig = out(seeded(0, 0x3E, 0, 0x47, 0x78, 0x67, 0x76));
        rig.x.run(60);
        rig.dueRegister("none of these sets Z", 16, 2);
        rig = out(seeded(0, 0x3E, 1, 0x3D, 0x3E, 9, 0x47, 0x78, 0x67, 0x76));
        rig.x.run(60);
        rig.dueRegister("none of these takes Z away", 16, 3);
    }

    private static void counting() {
        for (int a = 0; a < 256; a += a == 2 ? 124 : a == 129 ? 125 : 1) {
            Rig rig = out(seeded(0, 0x3E, a, 0x3C, 0x76));
            rig.x.run(40);
            rig.dueRegister(a + " + 1", 12, (a + 1) % 256);
            rig.dueRegister("Z of " + a + " + 1", 16, a == 255 ? 3 : 2);
            rig = out(seeded(0, 0x3E, a, 0x3D, 0x76));
            rig.x.run(40);
            rig.dueRegister(a + " - 1", 12, (a + 255) % 256);
            rig.dueRegister("Z of " + a + " - 1", 16, a == 1 ? 3 : 2);
            for (int b = 0; b < 256; b += 64) {
                rig = out(seeded(0, 0x3E, b, 0x47, 0x3E, a, 0x80, 0x76));
                rig.x.run(60);
                rig.dueRegister(a + " + " + b, 12, (a + b) % 256);
                rig.dueRegister("B stays", 13, b);
                rig.dueRegister("Z of " + a + " + " + b, 16, (a + b) % 256 == 0 ? 3 : 2);
            }
        }
        Rig rig = out(seeded(0, 0x3E, 255, 0x3C, 0x3C, 0x76));
        rig.x.run(60);
        rig.dueRegister("Z is taken away", 16, 2);
    }

    private static void memoryBytes() {
        // 127 is its last byte, 128 its first one again, 32767 the last one again.
        Rig rig = seeded(0, 0x3E, 5, 0x32, 127, 0, 0x3C, 0x32, 0x84, 1, 0x3E, 9, 0x32, 0xFE, 0x7F,
            0x3A, 127, 0, 0x47, 0x3A, 0x7E, 0x7F, 0x76);
        out(rig).x.run(200);
        rig.dueRegister("A = byte 126", 12, 9);
        rig.dueRegister("B = byte 127", 13, 5);
        rig.write(Rig.BUSREQ, 256).go();
        rig.dueMemory("byte 4, written as 0x184", 772, 0x0606);
        rig.dueMemory("byte 126", 894, 0x0909);
    }

    private static void romBytes() {
        // High half first, address modulo 512, from 32768 to the end.
        int[][] cases = {{0x00, 0x81, 0x12}, {0x01, 0x81, 0x35}, {0x00, 0x83, 0x12}, {0xFF, 0xFF, 0x79},
            {0xFE, 0xFF, 0x56}, {0x03, 0x80, 0x7E}};
        for (int[] one : cases) {
            Rig rig = seeded(0, 0x3A, one[0], one[1], 0x76).at(256, 0x1235).at(510, 0x5679);
            out(rig);
            rig.dueRegister("byte " + one[0] + " " + one[1], 12, one[2]);
            // 16 given, 13 + 3 done: nothing is left for HALT.
            rig.dueRegister("3 cycles more", 15, 3);
            rig.dueStep("the main one's 11", 15);
            rig.dueStep("once", 4);
        }
        // Writing there does nothing and costs nothing more.
        Rig rig = out(seeded(0, 0x3E, 9, 0x32, 0, 0x81, 0x47, 0x76).at(256, 0x1234));
        rig.dueStep("no 11", 4);
        rig.dueRegister("20 given, 20 done", 15, 5);
        rig.dueRegister("20 given, 20 done", 13, 0);
        rig.dueStep("waiting", 4);
        rig.dueRegister("the next", 13, 9);
        rig.dueMemory("ROM stays", 256, 0x1234);
        rig = out(seeded(0, 0x3E, 9, 0x32, 0, 0x80));
        rig.write(Rig.RESET, 0).go();
        rig.dueMemory("byte 0 stays", 768, 0x3E3E);
        // 32767 is RAM, 32768 is ROM.
        rig = seeded(0, 0x3A, 0xFF, 0x7F, 0x76);
        rig.x.seed(127, 3);
        out(rig);
        rig.dueRegister("32767", 12, 3);
        rig.dueStep("no 11", 4);
        rig = out(seeded(0, 0x3A, 0x00, 0x80, 0x76).at(0, 0xAB00));
        rig.dueRegister("32768", 12, 0xAB);
    }

    private static void branches() {
        // Not Z: 12 cycles; 16 given: 12 + 4.
        Rig rig = out(seeded(0, 0x20, 3, 0, 0, 0, 0x3C, 0x76));
        rig.dueRegister("ahead", 15, 6);
        rig.dueRegister("A", 12, 1);
        rig = seeded(64, 0x20, 0xFC);
        seed(rig, 0, 0xC3, 64, 0);
        out(rig);
        rig.dueRegister("back", 15, 62);
        rig = out(seeded(0, 0x20, 0x80));
        rig.dueRegister("back over 0 into ROM", 15, 65536 + 2 - 128 + 1);
        // Z: A = 1, A - 1, then 7 cycles: 7 + 4 + 7 = 18.
        rig = out(seeded(0, 0x3E, 1, 0x3D, 0x20, 0x10, 0x3C));
        rig.dueRegister("not taken", 15, 5);
        rig.dueRegister("not done yet", 12, 0);
        rig.dueStep("2 left", 4);
        rig.dueRegister("the next", 12, 1);
        rig.steps(1);
        // 24 given: 7 + 4 + 7 + 4 = 22, then one more of 4.
        rig.dueRegister("7 cycles", 15, 7);
        // In ROM both bytes count, taken or not.
        rig = seeded(0, 0x3E, 1, 0x3D, 0xC3, 0, 0x81).at(256, 0x2010);
        out(rig);
        rig.dueStep("to ROM", 4);
        rig.dueRegister("at ROM", 15, 0x8100);
        rig.x.run(4);
        rig.dueRegister("not taken", 15, 0x8102);
        rig.x.reset();
        rig.dueStep("two bytes", 16 + 22);
    }

    private static void jumpsAndHalts() {
        // 10 cycles: 16 given, then one of 4, then 2 left: another.
        Rig rig = seeded(0, 0xC3, 0x50, 0x01);
        out(rig);
        rig.dueRegister("PC and two more", 15, 0x152);
        // H = 0x40: 7 + 4, then C9: 10.
        rig = seeded(0, 0x3E, 0x40, 0x67, 0xC9);
        out(rig);
        rig.dueRegister("PC from H", 15, 0x40);
        rig.dueStep("20 given, 21 done", 4);
        rig.dueRegister("nothing more", 15, 0x40);
        rig.dueStep("24 given", 4);
        rig.dueRegister("one more", 15, 0x41);
        rig = out(seeded(0, 0x76, 0x3C));
        rig.dueRegister("HALTED", 16, 2);
        rig.x.run(100);
        rig.dueRegister("stays", 15, 1);
        rig.dueRegister("stays", 12, 0);
        // HALTED in ROM reads no bytes.
        rig = out(seeded(0, 0xC3, 0, 0x81).at(256, 0x7600));
        rig.x.run(100);
        rig.x.reset();
        rig.dueStep("one step", 16);
        rig.dueRegister("HALTED", 16, 2);
    }

    private static void addressesWrap() {
        // The instruction at 65535 goes on at 0.
        Rig rig = seeded(0, 0xC3, 0xFF, 0xFF).at(510, 0x003E);
        out(rig);
        rig.dueRegister("A = byte 0", 12, 0xC3);
        rig.dueRegister("PC", 15, 1);
        // 32767 goes on at 32768.
        rig = seeded(0, 0xC3, 0xFF, 0x7F);
        seed(rig, 127, 0x3E);
        rig.at(0, 0x5A00);
        out(rig);
        rig.dueRegister("A = byte of ROM", 12, 0x5A);
        rig.dueRegister("PC", 15, 0x8001);
        rig.dueStep("one byte", 15);
    }

    private static void interruptsLetIn() {
        Rig rig = seeded(0, 0x3E, 1, 0xFB, 0x76, 0x76);
        seed(rig, 56, 0x3C, 0x3C, 0x3C, 0x3C, 0xC9);
        out(rig);
        rig.upTo(16, 508);
        rig.dueRegister("HALTED, lets in", 16, 6);
        rig.steps(1);
        rig.dueRegister("told", 15, 56);
        rig.dueRegister("H", 14, 4);
        rig.dueRegister("lets in no more, not HALTED", 16, 0);
        // 512 given: 7 + 4 + 4 + 125 times 4 are 515: it owes 3, and 13 more.
        rig.steps(4);
        rig.dueRegister("16 given, 16 owed", 15, 56);
        rig.steps(1);
        rig.dueRegister("4 given", 15, 57);
        rig.x.run(40);
        rig.dueRegister("back by H", 15, 5);
        rig.dueRegister("A", 12, 5);
        rig.x.run(800);
        rig.dueRegister("not told again", 12, 5);
        // PC's low byte alone.
        rig = seeded(0, 0xFB, 0xC3, 0x40, 0x01);
        seed(rig, 64, 0xC3, 0x40, 0x01);
        out(rig);
        rig.upTo(16, 512);
        rig.dueRegister("H", 14, 0x40);
        rig.dueRegister("PC", 15, 56);
    }

    /** Behind an interrupt come instructions of 7 cycles: they tell what was owed, to the cycle. */
    private static void interruptCycles() {
        int[][] programs = {{0xFB, 0x76}, {0x00, 0xFB, 0x76}, {0xFB, 0x3E, 9, 0x76}, {0xFB, 0x3E, 9, 0x3E, 9, 0x76},
            {0xFB, 0x3A, 9, 0, 0x76}};
        int[] owed = {0, 0, 3, 2, 1};
        for (int p = 0; p < programs.length; p++) {
            Rig rig = seeded(0, programs[p]);
            for (int k = 56; k < 126; k += 2) {
                seed(rig, k, 0x3E, 1);
            }
            out(rig);
            rig.upTo(16, 512);
            rig.dueRegister("H", 14, programs[p].length);
            for (int given = 0; given < 80; given += 4) {
                int left = given - 13 - owed[p];
                int done = left > 0 ? (left + 6) / 7 : 0;
                rig.dueRegister("program " + p + " with " + given, 15, 56 + 2 * done);
                rig.steps(1);
            }
        }
    }

    private static void interruptsNotTaken() {
        Rig rig = seeded(0, 0xFB, 0xF3, 0x76);
        out(rig);
        rig.upTo(16, 512);
        rig.dueRegister("not let in", 16, 2);
        rig.dueRegister("PC", 15, 3);
        rig = seeded(0, 0xFB, 0x76);
        rig.write(Rig.RESET, 256).put(Rig.NOP).write(Rig.BUSREQ, 256).put(Rig.STOP, 0x700).start();
        rig.upTo(0, 520);
        rig.dueRegister("HELD", 16, 2 + 4 + 8);
        rig.dueRegister("PC", 15, 2);
        rig = seeded(0, 0xFB, 0x76);
        rig.write(Rig.RESET, 256).put(Rig.NOP).write(Rig.RESET, 0).put(Rig.STOP, 0x700).start();
        rig.upTo(0, 520);
        rig.dueRegister("in RESET", 16, 2 + 4 + 16);
        rig.dueRegister("PC", 15, 2);
    }

    private static void held() {
        // HELD as it comes out of RESET, then let go; each step's cycles are given after its instruction.
        Rig rig = new Rig().write(Rig.BUSREQ, 256).write(Rig.RESET, 256).put(Rig.NOP).write(Rig.BUSREQ, 0xFEFF)
            .put(Rig.STOP, 0x700).start().steps(3);
        rig.dueRegister("HELD", 16, 8);
        rig.dueRegister("nothing done", 15, 0);
        rig.steps(1);
        rig.dueRegister("let go", 16, 0);
        rig.dueRegister("16 cycles", 15, 4);
        // What it owes waits with it: 13 - 4 = 9 owed after the first step of four.
        rig = seeded(0, 0x00, 0x00, 0x00, 0x00, 0x3A, 0, 0);
        rig.write(Rig.RESET, 256).put(Rig.NOP).write(Rig.BUSREQ, 0x1FF).write(Rig.BUSREQ, 0).put(Rig.STOP, 0x700).start();
        rig.steps(2);
        rig.dueRegister("20 given, 29 done", 15, 7);
        rig.steps(1);
        rig.dueRegister("HELD", 15, 7);
        rig.dueRegister("HELD", 16, 8);
        rig.steps(1);
        // 16 given, 9 owed: 7 left are two instructions.
        rig.dueRegister("let go", 15, 9);
    }

    private static void resets() {
        Rig rig = seeded(0, 0x3E, 1, 0x47, 0x67, 0x3D, 0xFB, 0x76);
        rig.write(Rig.RESET, 256).read(0, Rig.RESET).write(Rig.RESET, 0xFEFF).put(Rig.NOP).write(Rig.RESET, 0)
            .write(Rig.RESET, 0x100).put(Rig.NOP).write(Rig.RESET, 256).write(Rig.BUSREQ, 256)
            .write(Rig.RESET, 0).write(Rig.RESET, 256).put(Rig.STOP, 0x700).start();
        rig.steps(2);
        rig.dueRegister("read: 0", 0, 0);
        rig.steps(2);
        rig.dueRegister("in RESET all stays: A", 12, 0);
        rig.dueRegister("B", 13, 1);
        rig.dueRegister("H", 14, 1);
        rig.dueRegister("PC", 15, 7);
        rig.dueRegister("Z, HALTED, lets in, in RESET", 16, 1 + 2 + 4 + 16);
        rig.dueMemory("its RAM", 768, 0x3E3E);
        rig.steps(1);
        rig.dueRegister("RESET again changes nothing", 16, 1 + 2 + 4 + 16);
        rig.x.seed(0, 0x00);
        rig.x.seed(1, 0x00);
        rig.steps(1);
        // Out: all is 0 but its RAM, 16 cycles are given: four instructions.
        rig.dueRegister("out: A", 12, 0);
        rig.dueRegister("B", 13, 0);
        rig.dueRegister("H", 14, 0);
        rig.dueRegister("PC", 15, 4);
        rig.dueRegister("nothing else", 16, 0);
        rig.steps(2);
        rig.dueRegister("taken out again: nothing", 16, 2 + 4);
        rig.dueRegister("A", 12, 255);
        rig.steps(3);
        rig.dueRegister("HELD it stays", 16, 8);
        rig.dueRegister("PC", 15, 0);
        rig = seeded(0, 0x3E, 5, 0x47, 0x67, 0xFB, 0x76);
        rig.write(Rig.RESET, 256).put(Rig.NOP, Rig.NOP, Rig.NOP).write(Rig.BUSREQ, 256).write(Rig.RESET, 0)
            .write(Rig.RESET, 256).start().steps(6);
        rig.dueRegister("A before", 12, 5);
        rig.dueRegister("B before", 13, 5);
        rig.dueRegister("H before", 14, 5);
        rig.dueRegister("the rest before", 16, 2 + 4 + 8 + 16);
        rig.steps(1);
        for (int r = 12; r < 16; r++) {
            rig.dueRegister("all is 0", r, 0);
        }
        rig.dueRegister("HELD it stays", 16, 8);
        // What it owes is 0 too: put in RESET owing 9, then 16 given are 4 instructions.
        rig = seeded(0, 0x00, 0x00, 0x00, 0x00, 0x3A, 0, 0);
        rig.write(Rig.RESET, 256).put(Rig.NOP).write(Rig.RESET, 0).write(Rig.RESET, 256).start().steps(3);
        rig.dueRegister("in RESET", 15, 7);
        rig.steps(1);
        rig.dueRegister("it owes nothing", 15, 4);
        // The main one's 11s stay when the second goes through RESET.
        rig = seeded(0, 0xC3, 0, 0x81);
        rig.write(Rig.RESET, 256).put(Rig.NOP, Rig.NOP).start().steps(2);
        rig.dueRegister("bytes of ROM", 15, 0x8102);
        rig.write(Rig.RESET, 0).write(Rig.RESET, 256).put(Rig.NOP).start();
        rig.dueStep("the second byte's 11", 27);
        rig.dueStep("none in RESET", 16);
        rig.dueStep("one byte again", 15);
        rig = seeded(0, 0xC3, 0, 0x81);
        rig.write(Rig.RESET, 256).put(Rig.STOP, 0x700).start().steps(2);
        rig.x.run(20);
        int bytes = rig.x.register(15) - 0x8100;
        rig.write(Rig.RESET, 0).start();
        rig.dueStep("all but the one paid", 16 + 11 * (bytes - 1));
    }

    private static void owes() {
        // 13 each: 16 given: two are 26, 10 owed; three steps of four: one more begins with 2 left.
        Rig rig = out(seeded(0, 0x3A, 0, 0, 0x3A, 0, 0, 0x3A, 0, 0, 0x3A, 0, 0));
        int[] pcs = {6, 6, 6, 9, 9, 9, 12};
        for (int pc : pcs) {
            rig.dueRegister("by 13s", 15, pc);
            rig.steps(1);
        }
        // HALTED it does 4 each: 16 given: 13 + 4 are 17, 1 owed; it owes 1 as line 8 begins.
        rig = seeded(0, 0xFB, 0x3E, 0, 0x76);
        out(rig);
        rig.upTo(16, 512);
        rig.steps(4);
        rig.dueRegister("owes 3 and 13: 16 given", 15, 56);
        rig.steps(1);
        rig.dueRegister("4 given", 15, 57);
    }

    /** The cycles that the main one waits for ROM are not given to the second. */
    private static void elevensAreNotGiven() {
        Rig rig = seeded(0, 0x3A, 0, 0x81, 0x3A, 0, 0x81, 0, 0, 0, 0, 0, 0, 0, 0);
        rig.write(Rig.RESET, 256).put(Rig.NOP).start().steps(1);
        rig.dueRegister("16 given, 16 done", 15, 3);
        rig.dueStep("11 waited", 15);
        rig.dueRegister("4 given, 16 done", 15, 6);
        rig.put(Rig.STOP, 0x700).start();
        rig.dueStep("11 waited", 15);
        rig.steps(2);
        rig.dueRegister("12 owed, 12 given", 15, 6);
        rig.steps(1);
        rig.dueRegister("4 given", 15, 7);
        // They are not paid by interrupts nor by words moved.
        rig = seeded(0, 0xC3, 0, 0x81);
        rig.register(1, 32).put(Rig.STOP, 0x700).start();
        rig.upTo(0, 512);
        rig.write(Rig.RESET, 256).put(Rig.STOP, 0x100).at(440, Rig.NOP).start().steps(1);
        rig.dueStep("paid as it begins to wait", 15);
        rig.dueRegister("another byte", 15, 0x8102);
        rig.dueStep("not at an interrupt", 44);
        int bytes = rig.x.register(15) - 0x8100;
        rig.dueStep("at the next instruction", 4 + 11 * (bytes - 1));
        rig = seeded(0, 0xC3, 0, 0x81);
        rig.register(1, 16).register(11, 4).write(Rig.RESET, 256).control(0, 33).put(Rig.NOP).start().steps(3);
        rig.steps(2);
        for (int k = 0; k < 4; k++) {
            rig.dueStep("not for a word moved", 2);
        }
        // 16 given thrice and 8: 10 for the jump, 7 for each byte: 1, 3, 2, 1; the first four were paid.
        rig.dueRegister("bytes", 15, 0x8100 + 7);
        rig.dueStep("at the next instruction", 4 + 11 * 3);
        // An instruction that can't be done is one, too.
        rig = seeded(0, 0xC3, 0, 0x81);
        rig.write(Rig.RESET, 256).put(0x4AFC).start().steps(1);
        rig.dueStep("can't be done", 34 + 11);
    }
}
