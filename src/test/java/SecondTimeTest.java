/** Promise 5: the cycles that the second is given and owes, its interrupt, and what it costs the main one. */
public final class SecondTimeTest {
    private SecondTimeTest() {
    }

    public static void main(String[] args) {
        Check.that("the second, if it is neither HELD nor in RESET, is given as many cycles", SecondTimeTest::asManyCycles);
        Check.that("if it is neither HELD (nothing is given while it is)", SecondTimeTest::heldIsGivenNothing);
        Check.that("nor in RESET (nothing is given while it is)", SecondTimeTest::inResetIsGivenNothing);
        Check.that("then the second (behind what the main one did in that step)", SecondTimeTest::behindTheMainOne);
        Check.that("does instructions as long as it has some left", SecondTimeTest::asLongAsSomeAreLeft);
        Check.that("(what it does too much it owes for the next time", SecondTimeTest::owes);
        Check.that("HALTED: 4 each)", SecondTimeTest::haltedFourEach);
        Check.that("(but for those 11s that the main one had to wait)", SecondTimeTest::elevensAreNotGiven);
        Check.that("the main one 11, each byte, at its next instruction", SecondTimeTest::elevensAtTheNextInstruction);
        Check.that("(not at an interrupt, waiting, or a word moved) (an interrupt)", SecondTimeTest::notAtAnInterrupt);
        Check.that("(not at an interrupt, waiting, or a word moved) (waiting)", SecondTimeTest::notWhileWaiting);
        Check.that("(not at an interrupt, waiting, or a word moved) (a word moved)", SecondTimeTest::notForAWordMoved);
        Check.that("at its next instruction (one that can't be done)", SecondTimeTest::atAnExceptionToo);
        Check.that("what it owes, too (the main one's 11s are not the second's)", SecondTimeTest::elevensStayInReset);
        Check.that("When line 8 begins it is told", SecondTimeTest::toldAtLineEight);
        Check.that("if it is neither HELD: otherwise nothing", SecondTimeTest::notToldWhenHeld);
        Check.that("nor in RESET: otherwise nothing", SecondTimeTest::notToldInReset);
        Check.that("and lets interrupts in: otherwise nothing", SecondTimeTest::notToldUnlessLetIn);
        Check.that("H = PC's low byte", SecondTimeTest::lowByteOfPc);
        Check.that("no more are let in", SecondTimeTest::noMoreAreLetIn);
        Check.that("HALTED ends", SecondTimeTest::haltedEnds);
        Check.that("and it has done 13 cycles more", SecondTimeTest::thirteenCycles);
        Check.end();
    }

    private static Rig seeded(int... bytes) {
        return new Rig().seed(0, bytes);
    }

    /** The second's RAM does nothing, so that PC tells how many times 4 cycles were given. */
    private static void asManyCycles() {
        int[][] cases = {{0x4E71, 4}, {0x6002, 10}, {0x6102, 8}, {0x3038, 12}, {0x31FC, 16}, {0x4E73, 20}, {0x4AFC, 34}};
        for (int[] one : cases) {
            Rig rig = new Rig().write(Rig.RESET, 256).put(one[0], 512, 514).start().steps(1);
            rig.dueRegister("16 cycles", 15, 4);
            rig.dueStep("word " + one[0], one[1]);
            rig.dueRegister("and " + one[1], 15, 4 + (one[1] + 3) / 4);
        }
        Rig rig = new Rig().out().steps(1);
        int pc = rig.x.register(15);
        rig.dueStep("waiting", 4);
        rig.dueRegister("4 cycles", 15, pc + 1);
        rig = new Rig().register(0, 16).write(Rig.RESET, 256).put(Rig.STOP, 0).start();
        rig.upTo(0, 64);
        pc = rig.x.register(15);
        rig.dueStep("an interrupt", 44);
        rig.dueRegister("44 cycles", 15, pc + 11);
        rig = new Rig().register(1, 16).register(11, 9).write(Rig.RESET, 256).control(0, 33).start().steps(5);
        pc = rig.x.register(15);
        for (int k = 1; k < 9; k++) {
            rig.dueStep("a word moved", 2);
            rig.dueRegister(2 * k + " cycles", 15, pc + (k + 1) / 2);
        }
    }

    private static void heldIsGivenNothing() {
        Rig rig = new Rig().write(Rig.RESET, 256).write(Rig.BUSREQ, 256).put(Rig.NOP, Rig.NOP).write(Rig.BUSREQ, 0)
            .start().steps(1);
        rig.dueRegister("16 cycles", 15, 4);
        rig.steps(3);
        rig.dueRegister("HELD", 15, 4);
        rig.steps(1);
        rig.dueRegister("let go: 16 more", 15, 8);
        // What it owes waits with it: 20 given, 29 done.
        rig = seeded(0, 0, 0, 0, 0x3A, 9, 0).write(Rig.RESET, 256).put(Rig.NOP).write(Rig.BUSREQ, 0x1FF)
            .write(Rig.BUSREQ, 0).start().steps(3);
        rig.dueRegister("HELD", 15, 7);
        rig.steps(1);
        rig.dueRegister("16 given, 9 owed: two more", 15, 9);
    }

    private static void inResetIsGivenNothing() {
        Rig rig = new Rig().put(Rig.NOP, Rig.NOP).write(Rig.RESET, 256).write(Rig.RESET, 0).put(Rig.NOP).start().steps(2);
        rig.dueRegister("in RESET", 15, 0);
        rig.steps(1);
        rig.dueRegister("out", 15, 4);
        rig.steps(2);
        rig.dueRegister("in RESET again", 15, 4);
    }

    private static void behindTheMainOne() {
        // The step that takes it out gives it its cycles; the step that holds it doesn't.
        Rig rig = new Rig().write(Rig.RESET, 256).write(Rig.BUSREQ, 256).start();
        rig.dueStep("out", 16);
        rig.dueRegister("4 done", 15, 4);
        rig.dueStep("HELD", 16);
        rig.dueRegister("no more", 15, 4);
        // It finds what the main one wrote while it was HELD.
        rig = seeded(0x76, 0, 0).write(Rig.BUSREQ, 256).write(Rig.RESET, 256).write(768, 0x3C00).write(Rig.BUSREQ, 0)
            .start().steps(4);
        rig.dueRegister("the byte that was written", 12, 1);
    }

    private static void asLongAsSomeAreLeft() {
        // Before HALT: 12 done of 16, 4 left; 16 of 16, none left; 15 of 16, 1 left; 17 of 16.
        seeded(0, 0, 0, 0x76).out().dueRegister("4 left: one more", 15, 4);
        seeded(0, 0, 0, 0, 0x76).out().dueRegister("0 left: no more", 15, 4);
        seeded(0x3E, 1, 0, 0, 0x76).out().dueRegister("1 left: one more", 15, 5);
        seeded(0x3A, 9, 0, 0, 0x76).out().dueRegister("17 done: no more", 15, 4);
    }

    private static void owes() {
        // 13 each: 16 given: two are 26, 10 owed; three steps of four: one more begins with 2 left.
        Rig rig = seeded(0x3A, 0, 0, 0x3A, 0, 0, 0x3A, 0, 0, 0x3A, 0, 0).out();
        int[] pcs = {6, 6, 6, 9, 9, 9, 12};
        for (int pc : pcs) {
            rig.dueRegister("by 13s", 15, pc);
            rig.steps(1);
        }
        // Bytes of ROM are owed alike: 3 + 13 + 9 cycles each.
        rig = seeded(0xC3, 0, 0x81).at(256, 0x3A00, 0x813A, 0x0081).out();
        rig.dueRegister("6 left: one of 25", 15, 0x8103);
        for (int k = 0; k < 4; k++) {
            rig.steps(1);
            rig.dueRegister("19 owed", 15, 0x8103);
        }
        rig.steps(1);
        rig.dueRegister("20 given", 15, 0x8106);
    }

    /** HALTED from 1 cycle too much on: it owes 1, 1, 1 ..; then line 8 makes it 14. */
    private static void haltedFourEach() {
        Rig rig = seeded(0xFB, 0x3A, 9, 0, 0x76).seed(56, 0x3C, 0x3C, 0x3C, 0x3C).out();
        rig.upTo(16, 512);
        rig.dueRegister("told", 15, 56);
        rig.steps(3);
        rig.dueRegister("12 given, 14 owed", 12, 0);
        rig.steps(1);
        rig.dueRegister("16 given", 12, 1);
        // A word moved gives 2 cycles: HALTED takes 4 of them, and 2 are owed.
        rig = seeded(0xFB, 0x76).seed(56, 0x3C, 0x3C, 0x3C, 0x3C).register(1, 16).write(Rig.RESET, 256).register(11, 255)
            .control(0, 33).start().steps(5);
        rig.dueRegister("frozen", 11, 2);
        rig.upTo(80, 512);
        rig.dueRegister("told", 15, 56);
        // Nothing was owed before: 496 given.
        for (int k = 0; k < 6; k++) {
            rig.dueStep("a word", 2);
            rig.dueRegister("13 owed", 12, 0);
        }
        rig.dueStep("a word", 2);
        rig.dueRegister("14 given", 12, 1);
    }

    private static void elevensAreNotGiven() {
        Rig rig = seeded(0x3A, 0, 0x81, 0x3A, 0, 0x81, 0, 0, 0, 0, 0, 0, 0, 0).write(Rig.RESET, 256).put(Rig.NOP)
            .start().steps(1);
        rig.dueRegister("16 given, 16 done", 15, 3);
        rig.dueStep("11 waited", 15);
        rig.dueRegister("4 given, 16 done", 15, 6);
        rig.put(Rig.STOP, 0x700).start();
        rig.dueStep("11 waited", 15);
        rig.steps(2);
        rig.dueRegister("12 owed, 12 given", 15, 6);
        rig.steps(1);
        rig.dueRegister("4 given", 15, 7);
        // Lines go on by all of them.
        rig = seeded(0x3A, 0, 0x81, 0x76).write(Rig.RESET, 256).put(Rig.NOP).read(0, Rig.POSITION).start().steps(3);
        rig.dueRegister("16 + 15 cycles", 0, 31);
    }

    private static void elevensAtTheNextInstruction() {
        Rig rig = seeded(0xC3, 0, 0x81).write(Rig.RESET, 256).write(Rig.RESET, 0).put(Rig.NOP).start();
        rig.dueStep("none yet", 16);
        rig.dueStep("one byte", 16 + 11);
        rig.dueStep("paid once", 4);
    }

    /** The second reads a byte of ROM with each 7 cycles; level 6 is pending, MASK 7. */
    private static void notAtAnInterrupt() {
        Rig rig = seeded(0xC3, 0, 0x81).register(1, 32).put(Rig.STOP, 0x700).start();
        rig.upTo(0, 512);
        rig.write(Rig.RESET, 256).put(Rig.STOP, 0x100).at(440, Rig.NOP).start().steps(1);
        rig.dueStep("paid as it begins to wait", 15);
        rig.dueRegister("another byte", 15, 0x8102);
        rig.dueStep("not at an interrupt", 44);
        int bytes = rig.x.register(15) - 0x8100;
        rig.dueStep("at the next instruction", 4 + 11 * (bytes - 1));
    }

    private static void notWhileWaiting() {
        Rig rig = seeded(0xC3, 0, 0x81).write(Rig.RESET, 256).put(Rig.STOP, 0x700).start().steps(1);
        rig.dueStep("as it begins to wait", 15);
        for (int k = 0; k < 10; k++) {
            rig.dueStep("waiting", 4);
        }
        int bytes = rig.x.register(15) - 0x8100;
        rig.write(Rig.RESET, 0).start();
        rig.dueStep("all but the one paid", 16 + 11 * (bytes - 1));
    }

    private static void notForAWordMoved() {
        Rig rig = seeded(0xC3, 0, 0x81).register(1, 16).register(11, 4).write(Rig.RESET, 256).control(0, 33).put(Rig.NOP)
            .start().steps(5);
        for (int k = 0; k < 4; k++) {
            rig.dueStep("not for a word moved", 2);
        }
        // 16 given thrice and 8: 10 for the jump, 7 for each byte: 1, 3, 2, 1; the first four were paid.
        rig.dueRegister("bytes", 15, 0x8100 + 7);
        rig.dueStep("at the next instruction", 4 + 11 * 3);
    }

    private static void atAnExceptionToo() {
        Rig rig = seeded(0xC3, 0, 0x81).write(Rig.RESET, 256).put(0x4AFC).start().steps(1);
        rig.dueStep("can't be done", 34 + 11);
    }

    private static void elevensStayInReset() {
        Rig rig = seeded(0xC3, 0, 0x81).write(Rig.RESET, 256).put(Rig.NOP, Rig.NOP).start().steps(2);
        rig.dueRegister("bytes of ROM", 15, 0x8102);
        rig.write(Rig.RESET, 0).write(Rig.RESET, 256).put(Rig.NOP).start();
        rig.dueStep("the second byte's 11", 27);
        rig.dueStep("none in RESET", 16);
        rig.dueStep("one byte again", 15);
    }

    private static void toldAtLineEight() {
        Rig rig = seeded(0x3E, 1, 0xFB, 0x76).seed(56, 0x3C, 0x3C, 0xC9).out();
        rig.upTo(16, 508);
        rig.dueRegister("before line 8", 15, 4);
        rig.dueRegister("HALTED, lets in", 16, 6);
        rig.steps(1);
        rig.dueRegister("PC", 15, 56);
        rig.dueRegister("H", 14, 4);
        rig.dueRegister("A", 12, 1);
        rig.dueRegister("lets in no more, not HALTED", 16, 0);
        rig.x.run(60);
        rig.dueRegister("A", 12, 3);
        // Back at 4 it does nothing; register 1's bit 5 has nothing to do with it.
        rig.dueVideo("level 6 is not pending", 4, 3, 0);
    }

    private static void notToldWhenHeld() {
        Rig rig = seeded(0xFB, 0x76).write(Rig.RESET, 256).put(Rig.NOP).write(Rig.BUSREQ, 256).put(Rig.STOP, 0x700).start();
        rig.upTo(0, 520);
        rig.dueRegister("HELD", 16, 2 + 4 + 8);
        rig.dueRegister("PC", 15, 2);
        rig.dueRegister("H", 14, 0);
        rig.write(Rig.BUSREQ, 0).put(Rig.STOP, 0x700).start();
        rig.x.run(100);
        rig.dueRegister("nor later in the picture", 16, 2 + 4);
    }

    private static void notToldInReset() {
        Rig rig = seeded(0xFB, 0x76).write(Rig.RESET, 256).put(Rig.NOP).write(Rig.RESET, 0).put(Rig.STOP, 0x700).start();
        rig.upTo(0, 520);
        rig.dueRegister("in RESET", 16, 2 + 4 + 16);
        rig.dueRegister("PC", 15, 2);
        rig.dueRegister("H", 14, 0);
    }

    private static void notToldUnlessLetIn() {
        Rig rig = seeded(0xFB, 0xF3, 0x76).out();
        rig.upTo(16, 512);
        rig.dueRegister("not let in", 16, 2);
        rig.dueRegister("PC", 15, 3);
        rig = seeded(0x76).out();
        rig.upTo(16, 512);
        rig.dueRegister("never let in", 16, 2);
        rig.dueRegister("PC", 15, 1);
        // No 13 cycles either: 4 given are one more. PC was 128 as 512 cycles were given.
        rig = seeded(0).out();
        rig.upTo(16, 512);
        rig.dueRegister("128 done", 15, 128);
        rig.steps(1);
        rig.dueRegister("one more", 15, 129);
    }

    private static void lowByteOfPc() {
        Rig rig = seeded(0xFB, 0xC3, 0x40, 0x01).seed(64, 0xC3, 0x40, 0x01).out();
        rig.upTo(16, 512);
        rig.dueRegister("H", 14, 0x40);
        rig.dueRegister("PC", 15, 56);
        rig = seeded(0xFB, 0xC3, 0xFF, 0xFF).at(510, 0x0076).out();
        rig.x.run(508 - 16);
        rig.steps(1);
        rig.dueRegister("PC was 0x10000: 0", 14, 0);
        rig.dueRegister("PC", 15, 56);
        rig = seeded(0xFB, 0xC3, 0xFE, 0xFF).at(510, 0x7600).out();
        rig.x.run(508 - 16);
        rig.steps(1);
        rig.dueRegister("PC was 0xFFFF", 14, 0xFF);
    }

    private static void noMoreAreLetIn() {
        Rig rig = seeded(0xFB, 0x76).seed(56, 0x3C, 0x76).out();
        rig.x.run(512 - 16);
        rig.x.run(100);
        rig.dueRegister("A", 12, 1);
        rig.x.run(800);
        rig.dueRegister("not told again", 12, 1);
        rig.dueRegister("HALTED", 16, 2);
        // Let in again, it is told again.
        rig = seeded(0xFB, 0x76).seed(56, 0x3C, 0xFB, 0x76).out();
        rig.x.run(512 - 16);
        rig.x.run(100);
        rig.x.run(800);
        rig.dueRegister("told again", 12, 2);
    }

    private static void haltedEnds() {
        Rig rig = seeded(0xFB, 0x76).seed(56, 0x3C, 0x3C, 0x76).out();
        rig.upTo(16, 508);
        rig.dueRegister("HALTED", 16, 6);
        rig.steps(1);
        rig.dueRegister("no more", 16, 0);
        rig.x.run(60);
        rig.dueRegister("it goes on", 12, 2);
    }

    /** Behind an interrupt come instructions of 7 cycles: they tell what was owed, to the cycle. */
    private static void thirteenCycles() {
        int[][] programs = {{0xFB, 0x76}, {0x00, 0xFB, 0x76}, {0xFB, 0x3E, 9, 0x76}, {0xFB, 0x3E, 9, 0x3E, 9, 0x76},
            {0xFB, 0x3A, 9, 0, 0x76}};
        int[] owed = {0, 0, 3, 2, 1};
        for (int p = 0; p < programs.length; p++) {
            Rig rig = seeded(programs[p]);
            for (int k = 56; k < 126; k += 2) {
                rig.seed(k, 0x3E, 1);
            }
            rig.out();
            rig.upTo(16, 512);
            rig.dueRegister("H", 14, programs[p].length);
            for (int given = 0; given < 80; given += 4) {
                int left = given - 13 - owed[p];
                int done = left > 0 ? (left + 6) / 7 : 0;
                rig.dueRegister("program " + p + " with " + given, 15, 56 + 2 * done);
                rig.steps(1);
            }
        }
    }
}
