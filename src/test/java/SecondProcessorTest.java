/** Promise 5: the second processor's instructions and addresses. */
public final class SecondProcessorTest {
    private static final int[] BYTES = {0, 1, 2, 126, 127, 128, 129, 254, 255};

    private SecondProcessorTest() {
    }

    public static void main(String[] args) {
        Check.that("0x3E n: A = n [7]. (and what each byte costs in RAM)", SecondProcessorTest::everyCost);
        Check.that("0x20 e [12], else [7]. 0xC3 lo hi: PC [10]. 0xC9: PC from H [10].", SecondProcessorTest::costsOfJumps);
        Check.that("0x47: B = A. 0x78: A = B. 0x67: H = A.", SecondProcessorTest::loadsAndMoves);
        Check.that("(these three set Z", SecondProcessorTest::onlyThreeSetZ);
        Check.that("0x3C: A = A + 1. (a byte)", SecondProcessorTest::oneMore);
        Check.that("0x3D: A = A - 1 (a byte)", SecondProcessorTest::oneLess);
        Check.that("0x80: A = A + B. (a byte)", SecondProcessorTest::sums);
        Check.that("0x32 lo hi: byte there = A [13]. 0x3A lo hi: A = byte there [13].", SecondProcessorTest::memoryBytes);
        Check.that("if not Z, PC += e with its sign, from behind it", SecondProcessorTest::branchTaken);
        Check.that("if not Z, else [7]", SecondProcessorTest::branchNotTaken);
        Check.that("0xC3 lo hi: PC", SecondProcessorTest::jumps);
        Check.that("0x76: HALTED [4].", SecondProcessorTest::halts);
        Check.that("0xFB: interrupts are let in, 0xF3: not [4].", SecondProcessorTest::interruptsLetIn);
        Check.that("0xC9: PC from H", SecondProcessorTest::backByH);
        Check.that("Others: nothing [4].", SecondProcessorTest::others);
        Check.that("Its addresses: modulo 128 below 32768: its RAM", SecondProcessorTest::ramAgainAndAgain);
        Check.that("from 32768 on: byte (address modulo 512) of the ROM (a word's high half first)", SecondProcessorTest::romBytes);
        Check.that("below 32768: its RAM; from 32768 on: the ROM (the last and the first)", SecondProcessorTest::ramAndRomMeet);
        Check.that("PC (16 bits) (over its end)", SecondProcessorTest::pcOverTheEnd);
        Check.that("PC (16 bits) (below 0)", SecondProcessorTest::pcBelowZero);
        Check.that("which costs 3 cycles more and the main one 11, each byte (the second's instructions, too)",
            SecondProcessorTest::costsInRom);
        Check.that("which costs 3 cycles more and the main one 11 (a byte read)", SecondProcessorTest::costOfAByteRead);
        Check.that("nothing is written there", SecondProcessorTest::romIsNotWritten);
        Check.that("(and that costs nothing more)", SecondProcessorTest::writingToRomCostsNothing);
        Check.end();
    }

    private static Rig seeded(int at, int... bytes) {
        return new Rig().seed(at, bytes);
    }

    /** A machine whose second has done these bytes, at most 100 cycles of them. */
    private static Rig done(int... bytes) {
        Rig rig = seeded(0, bytes).out();
        rig.x.run(84);
        return rig;
    }

    /** Each byte's cycles: of bytes in a row so many are done as have begun with a cycle left. */
    private static void everyCost() {
        for (int op = 0; op < 256; op++) {
            boolean jumps = op == 0x20 || op == 0xC3 || op == 0xC9 || op == 0x76;
            if (jumps) {
                continue;
            }
            int length = op == 0x3E ? 2 : op == 0x32 || op == 0x3A ? 3 : 1;
            int cost = op == 0x3E ? 7 : length == 3 ? 13 : 4;
            Rig rig = new Rig();
            for (int k = 0; k < 40; k++) {
                rig.x.seed(length * k, op);
            }
            rig.out();
            for (int given = 16; given < 60; given += 4) {
                int done = (given + cost - 1) / cost;
                rig.dueRegister("byte " + op + " with " + given + " cycles", 15, length * done);
                rig.steps(1);
            }
        }
    }

    private static void costsOfJumps() {
        Rig jumps = new Rig();
        Rig taken = new Rig();
        Rig notTaken = seeded(0, 0x3E, 1, 0x3D);
        for (int k = 0; k < 40; k++) {
            jumps.seed(3 * k, 0xC3, 3 * k + 3, 0);
            taken.seed(2 * k, 0x20, 0);
            notTaken.seed(3 + 2 * k, 0x20, 0x30);
        }
        Rig back = seeded(0, 0x3C, 0xC9);
        jumps.out();
        taken.out();
        notTaken.out();
        back.out();
        for (int given = 16; given < 100; given += 4) {
            jumps.dueRegister("jumps with " + given, 15, 3 * ((given + 9) / 10));
            taken.dueRegister("branches with " + given, 15, 2 * ((given + 11) / 12));
            notTaken.dueRegister("branches by Z with " + given, 15, 3 + 2 * ((given - 11 + 6) / 7));
            // A + 1 of 4 cycles, then PC from H, of 10.
            back.dueRegister("rounds begun with " + given, 12, (given + 13) / 14);
            back.dueRegister("rounds ended with " + given, 15, given % 14 > 0 && given % 14 <= 4 ? 1 : 0);
            jumps.steps(1);
            taken.steps(1);
            notTaken.steps(1);
            back.steps(1);
        }
    }

    private static void loadsAndMoves() {
        Rig rig = done(0x3E, 0xFE, 0x47, 0x3E, 7, 0x67, 0x78, 0x76);
        rig.dueRegister("A = B", 12, 0xFE);
        rig.dueRegister("B = A", 13, 0xFE);
        rig.dueRegister("H = A", 14, 7);
        rig.dueRegister("PC behind HALT", 15, 8);
    }

    private static void onlyThreeSetZ() {
        done(0x3E, 0, 0x47, 0x78, 0x67, 0x3A, 127, 0, 0x76).dueRegister("none of these sets Z", 16, 2);
        done(0x3E, 1, 0x3D, 0x3E, 9, 0x47, 0x78, 0x67, 0x3A, 0, 0, 0x76).dueRegister("none of these takes Z away", 16, 3);
        done(0x3E, 255, 0x3C, 0x76).dueRegister("Z", 16, 3);
        done(0x3E, 255, 0x3C, 0x3C, 0x76).dueRegister("not Z", 16, 2);
        done(0x3E, 1, 0x3D, 0x3D, 0x76).dueRegister("not Z", 16, 2);
        done(0x3E, 128, 0x47, 0x80, 0x76).dueRegister("Z", 16, 3);
        done(0x3E, 128, 0x47, 0x80, 0x80, 0x76).dueRegister("not Z", 16, 2);
    }

    private static void oneMore() {
        for (int a : BYTES) {
            Rig rig = done(0x3E, a, 0x3C, 0x76);
            rig.dueRegister(a + " + 1", 12, (a + 1) % 256);
            rig.dueRegister("Z of " + a + " + 1", 16, a == 255 ? 3 : 2);
        }
    }

    private static void oneLess() {
        for (int a : BYTES) {
            Rig rig = done(0x3E, a, 0x3D, 0x76);
            rig.dueRegister(a + " - 1", 12, (a + 255) % 256);
            rig.dueRegister("Z of " + a + " - 1", 16, a == 1 ? 3 : 2);
        }
    }

    private static void sums() {
        for (int a : BYTES) {
            for (int b : BYTES) {
                Rig rig = done(0x3E, b, 0x47, 0x3E, a, 0x80, 0x76);
                rig.dueRegister(a + " + " + b, 12, (a + b) % 256);
                rig.dueRegister("B stays", 13, b);
                rig.dueRegister("Z of " + a + " + " + b, 16, (a + b) % 256 == 0 ? 3 : 2);
            }
        }
    }

    private static void memoryBytes() {
        Rig rig = done(0x3E, 5, 0x32, 0x40, 0, 0x3C, 0x3A, 0x41, 0, 0x47, 0x3A, 0x40, 0, 0x76);
        rig.dueRegister("A = byte 0x40", 12, 5);
        rig.dueRegister("B = byte 0x41", 13, 0);
        rig.write(Rig.BUSREQ, 256).go();
        rig.dueMemory("byte 0x40", 768 + 0x40, 0x0505);
        // A byte that is written ahead is done then.
        rig = done(0x3E, 0x3C, 0x32, 5, 0, 0x00, 0x76);
        rig.dueRegister("A + 1 was written", 12, 0x3D);
    }

    private static void branchTaken() {
        int[][] cases = {{0, 2}, {1, 3}, {3, 5}, {127, 129}};
        for (int[] one : cases) {
            // 12 cycles, then one more of 4 that does nothing.
            Rig rig = seeded(0, 0x20, one[0]).out();
            rig.dueRegister("by " + one[0], 15, one[1] + 1);
        }
        int[][] back = {{0x80, 0x64 - 128}, {0xFC, 0x64 - 4}, {0xFE, 0x64 - 2}, {0xFF, 0x64 - 1}};
        for (int[] one : back) {
            // 10 for the jump, 12 for this one: 16 are given.
            Rig rig = seeded(0, 0xC3, 0x62, 0).seed(0x62, 0x20, one[0]).out();
            rig.dueRegister("by " + one[0], 15, one[1] & 0xFFFF);
        }
    }

    private static void branchNotTaken() {
        // A = 1, A - 1, then 7 cycles: 18, so that 20 have 2 left for one more of 4.
        Rig rig = seeded(0, 0x3E, 1, 0x3D, 0x20, 0x10, 0x3C).out();
        rig.dueRegister("not taken", 15, 5);
        rig.dueRegister("the next is not done yet", 12, 0);
        rig.dueStep("20 given", 4);
        rig.dueRegister("the next", 12, 1);
        rig.steps(1);
        rig.dueRegister("24 given: 22 were done, then one more", 15, 7);
        // In ROM both its bytes are read all the same.
        rig = seeded(0, 0x3E, 1, 0x3D, 0xC3, 0, 0x81).at(256, 0x2010).out();
        rig.dueStep("to ROM", 4);
        rig.dueRegister("at ROM", 15, 0x8100);
        rig.x.run(4);
        rig.dueRegister("not taken", 15, 0x8102);
        rig.x.reset();
        rig.dueStep("two bytes", 16 + 22);
    }

    private static void jumps() {
        int[][] cases = {{0x50, 0x01}, {0x00, 0x00}, {0xFF, 0x7F}, {0x34, 0x12}};
        for (int[] one : cases) {
            Rig rig = seeded(0, 0, 0, 0, 0xC3, one[0], one[1]).out();
            // 12 cycles of nothing, 10 for the jump.
            rig.dueRegister("lo " + one[0] + ", hi " + one[1], 15, one[0] + 256 * one[1]);
        }
    }

    private static void halts() {
        Rig rig = seeded(0, 0x76, 0x3C).out();
        rig.dueRegister("HALTED", 16, 2);
        rig.x.run(100);
        rig.dueRegister("PC stays", 15, 1);
        rig.dueRegister("A stays", 12, 0);
        // HALTED in ROM it reads no bytes.
        rig = seeded(0, 0xC3, 0, 0x81).at(256, 0x7600).out();
        rig.x.run(100);
        rig.x.reset();
        rig.dueStep("one step", 16);
        rig.dueRegister("HALTED", 16, 2);
    }

    private static void interruptsLetIn() {
        done(0xFB, 0x76).dueRegister("let in", 16, 2 + 4);
        done(0xF3, 0x76).dueRegister("not", 16, 2);
        done(0xFB, 0xF3, 0x76).dueRegister("not", 16, 2);
        done(0xFB, 0xFB, 0x76).dueRegister("let in", 16, 2 + 4);
        done(0xF3, 0xFB, 0x76).dueRegister("let in", 16, 2 + 4);
    }

    private static void backByH() {
        // H = 0x40: 7 + 4, then C9: 10.
        Rig rig = seeded(0, 0x3E, 0x40, 0x67, 0xC9).out();
        rig.dueRegister("PC from H", 15, 0x40);
        rig.dueStep("20 given, 21 done", 4);
        rig.dueRegister("nothing more", 15, 0x40);
        rig.dueStep("24 given", 4);
        rig.dueRegister("one more", 15, 0x41);
        rig = seeded(0, 0x3E, 0xFF, 0x67, 0xC9).out();
        rig.dueRegister("the largest H", 15, 0xFF);
        // From ROM: PC's high byte becomes 0.
        rig = seeded(0, 0xC3, 0, 0x81).seed(5, 0x76).at(256, 0x3E05, 0x67C9).out();
        rig.x.run(84);
        rig.dueRegister("from ROM", 15, 6);
    }

    private static void others() {
        int[] known = {0x3E, 0x47, 0x78, 0x67, 0x3C, 0x80, 0x3D, 0x32, 0x3A, 0x20, 0xC3, 0x76, 0xFB, 0xF3, 0xC9};
        for (int op = 0; op < 256; op++) {
            boolean other = true;
            for (int one : known) {
                other = other && op != one;
            }
            if (!other) {
                continue;
            }
            // A = 1, B = 2, H = 3, Z.
            Rig rig = done(0x3E, 2, 0x47, 0x3E, 3, 0x67, 0x3E, 1, 0x3D, 0x3E, 1, op, 0x76);
            rig.dueRegister("byte " + op + ": A", 12, 1);
            rig.dueRegister("byte " + op + ": B", 13, 2);
            rig.dueRegister("byte " + op + ": H", 14, 3);
            rig.dueRegister("byte " + op + ": PC", 15, 13);
            rig.dueRegister("byte " + op + ": Z, HALTED", 16, 3);
        }
    }

    private static void ramAgainAndAgain() {
        int[] addresses = {126, 126 + 128, 126 + 256, 0x3FFE, 0x7F7E, 0x7FFE};
        for (int address : addresses) {
            Rig rig = seeded(126, 0x99).seed(0, 0x3A, address & 255, address >> 8, 0x76).out();
            rig.dueRegister("read at " + address, 12, 0x99);
            rig = done(0x3E, 0x77, 0x32, address & 255, address >> 8, 0x76);
            rig.write(Rig.BUSREQ, 256).go();
            rig.dueMemory("written at " + address, 894, 0x7777);
        }
        Rig rig = seeded(127, 5).seed(0, 0x3A, 127, 0).out();
        rig.dueRegister("its last byte", 12, 5);
        rig = seeded(0, 0x3A, 128, 0).out();
        rig.dueRegister("its first byte again", 12, 0x3A);
        // Its instructions, too: 0x80 is 0 again.
        rig = seeded(0, 0xC3, 0x80, 0, 0).out();
        rig.dueRegister("a jump to 128, and once more", 15, 0x80);
        rig = seeded(0, 0x3E, 0x12, 0xC3, 0x85, 0x02, 0x76).out();
        rig.dueStep("20 given", 4);
        rig.dueRegister("byte 5 at 0x285", 15, 0x286);
        rig.dueRegister("HALTED", 16, 2);
    }

    private static void romBytes() {
        int[][] cases = {{0x8000, 0xAB}, {0x8001, 0xCD}, {0x8003, 0x7E}, {0x8100, 0x12}, {0x8101, 0x35}, {0x81FE, 0x56},
            {0x81FF, 0x79}, {0x8200, 0xAB}, {0x8300, 0x12}, {0xFE00, 0xAB}, {0xFFFE, 0x56}, {0xFFFF, 0x79}};
        for (int[] one : cases) {
            Rig rig = seeded(0, 0x3A, one[0] & 255, one[0] >> 8, 0x76).at(0, 0xABCD).at(256, 0x1235).at(510, 0x5679);
            rig.out();
            rig.dueRegister("byte " + Integer.toHexString(one[0]), 12, one[1]);
        }
    }

    private static void ramAndRomMeet() {
        Rig rig = seeded(0, 0x3A, 0xFF, 0x7F, 0x76).seed(127, 3).at(0, 0xAB00).out();
        rig.dueRegister("32767", 12, 3);
        rig.dueStep("no 11", 4);
        rig = seeded(0, 0x3A, 0x00, 0x80, 0x76).seed(127, 3).at(0, 0xAB00).out();
        rig.dueRegister("32768", 12, 0xAB);
        rig.dueStep("11", 15);
        // An instruction at 32767 has its second byte at 32768.
        rig = seeded(0, 0xC3, 0xFF, 0x7F).seed(127, 0x3E).at(0, 0x5A00).out();
        rig.dueRegister("A = byte of ROM", 12, 0x5A);
        rig.dueRegister("PC", 15, 0x8001);
        rig.dueStep("one byte", 15);
    }

    private static void pcOverTheEnd() {
        // The instruction at 65535 goes on at 0.
        Rig rig = seeded(0, 0xC3, 0xFF, 0xFF).at(510, 0x003E).out();
        rig.dueRegister("A = byte 0", 12, 0xC3);
        rig.dueRegister("PC", 15, 1);
        // A branch ahead over the end: 10 for the jump, 18 for the branch: 12 owed.
        rig = seeded(0, 0xC3, 0xFC, 0xFF).at(508, 0x2010).out();
        rig.dueRegister("PC", 15, 0x0E);
    }

    private static void pcBelowZero() {
        // 12 cycles, then one byte of ROM at 65410.
        Rig rig = seeded(0, 0x20, 0x80).out();
        rig.dueRegister("back over 0", 15, 65536 + 2 - 128 + 1);
        rig = seeded(0, 0x20, 0xFD).at(510, 0x0076).out();
        rig.dueRegister("the last byte, then 0", 15, 0);
        rig.dueRegister("HALTED", 16, 2);
    }

    private static void costsInRom() {
        costInRom("nothing", 1, 4, 0x0000);
        costInRom("A = n", 2, 7, 0x3E3E);
        costInRom("B = A", 1, 4, 0x4747);
        costInRom("A + 1", 1, 4, 0x3C3C);
        costInRom("write to ROM", 3, 13, 0x3200, 0x9032, 0x0090);
        costInRom("write to RAM", 3, 13, 0x3240, 0x0032, 0x4000);
        costInRom("branch by 0", 2, 12, 0x2000);
    }

    /** The words stand in ROM again and again from byte 0x100 on; each instruction costs so much without its bytes. */
    private static void costInRom(String what, int length, int cost, int... words) {
        Rig rig = seeded(0, 0xC3, 0, 0x81).write(Rig.RESET, 256).put(Rig.NOP, 0x60FC);
        for (int k = 0; k < 72; k++) {
            rig.x.rom(128 + k, words[k % words.length]);
        }
        rig.start().steps(1);
        int all = cost + 3 * length;
        int given = 6;
        int paid = 0;
        for (int k = 0; k < 20; k++) {
            int done = (given + all - 1) / all;
            rig.dueRegister(what + " in ROM with " + given + " cycles", 15, 0x8100 + length * done);
            int base = k % 2 == 0 ? 4 : 10;
            rig.dueStep(what + " in ROM", base + 11 * (length * done - paid));
            paid = length * done;
            given += base;
        }
    }

    private static void costOfAByteRead() {
        // 16 given, 13 + 3 done: nothing is left for HALT.
        Rig rig = seeded(0, 0x3A, 0x00, 0x81, 0x76).out();
        rig.dueRegister("3 cycles more", 15, 3);
        rig.dueStep("the main one's 11", 15);
        rig.dueRegister("then HALT", 15, 4);
        rig.dueStep("once", 4);
        // In RAM 3 are left.
        rig = seeded(0, 0x3A, 0x00, 0x01, 0x76).out();
        rig.dueRegister("HALT", 15, 4);
        rig.dueStep("none", 4);
    }

    private static void romIsNotWritten() {
        Rig rig = seeded(0, 0x3E, 9, 0x32, 0, 0x80, 0x32, 0, 0x81, 0x32, 0xFF, 0xFF, 0x76).at(256, 0x1234).out();
        rig.x.run(84);
        rig.dueRegister("all is done", 16, 2);
        rig.dueMemory("word 0", 0, 0);
        rig.dueMemory("word 128", 256, 0x1234);
        rig.dueMemory("word 255", 510, 0);
        rig.write(Rig.RESET, 0).go();
        rig.dueMemory("its RAM's first byte", 768, 0x3E3E);
        rig.seed(0, 0x3A, 127, 0).out();
        rig.dueRegister("its RAM's last byte", 12, 0);
    }

    private static void writingToRomCostsNothing() {
        Rig rig = seeded(0, 0x3E, 9, 0x32, 0, 0x81, 0x47, 0x76).out();
        rig.dueStep("no 11", 4);
        rig.dueRegister("20 given, 20 done", 15, 5);
        rig.dueRegister("20 given, 20 done", 13, 0);
        rig.dueStep("waiting", 4);
        rig.dueRegister("the next", 13, 9);
        rig.x.reset();
        rig.dueStep("no 11", 16);
    }
}
