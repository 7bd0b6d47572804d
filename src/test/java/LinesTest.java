/** Promise 5: lines, the counter, and what becomes pending. */
public final class LinesTest {
    private LinesTest() {
    }

    public static void main(String[] args) {
        Check.that("LINES 0 .. 11 of 64 cycles", LinesTest::linesAndCycles);
        Check.that("LINES 0 .. 11 (line 0 comes behind line 11)", LinesTest::lineZeroAgain);
        Check.that("0 .. 7 are shown", LinesTest::shownLines);
        Check.that("They go on behind each STEP; in a STEP line and cycle are as they were.", LinesTest::behindEachStep);
        Check.that("one after the other", LinesTest::manyLinesInOneStep);
        Check.that("When a line below 8 begins, it is DRAWN; then a COUNTER falls", LinesTest::counterFalls);
        Check.that("when it was 0, it becomes register 8", LinesTest::counterValues);
        Check.that("if register 0's bit 4 is 1, level 4 is pending", LinesTest::levelFour);
        Check.that("in lines 8 .. 11 it becomes register 8 at their beginning", LinesTest::counterInHiddenLines);
        Check.that("in lines 8 .. 11 it becomes register 8 (and nothing is pending for it)", LinesTest::nothingInHiddenLines);
        Check.that("When line 8 begins, level 6 is pending if register 1's bit 5 is 1", LinesTest::levelSix);
        Check.that("When line 8 begins (and no other line)", LinesTest::levelSixAtLineEightAlone);
        Check.that("level 6 is pending (and stays so)", LinesTest::pendingStays);
        Check.that("bit 2 the line is 8 or more", LinesTest::statusOfLines);
        Check.that("bit 3 level 6 is pending", LinesTest::statusOfLevelSix);
        Check.end();
    }

    /** Waits with MASK 7 and no flags, in steps of four cycles. */
    private static Rig waiting(Rig rig) {
        return rig.put(Rig.STOP, 0x700).start();
    }

    /** A new machine that waits since so many cycles. */
    private static Rig waited(int cycles) {
        Rig rig = waiting(new Rig());
        rig.upTo(0, cycles);
        return rig;
    }

    private static void linesAndCycles() {
        Rig rig = new Rig().read(0, Rig.POSITION).read(1, Rig.POSITION).put(0x60F6).start();
        int line = 0;
        int cycle = 0;
        for (int k = 0; k < 120; k++) {
            int r = k % 3;
            int cycles = r == 2 ? 10 : 12;
            rig.dueStep("reading", cycles);
            if (r != 2) {
                rig.dueRegister("line and cycle as the step began", r, line * 256 + cycle);
            }
            cycle += cycles;
            line = (line + cycle / 64) % 12;
            cycle %= 64;
        }
    }

    private static void duePosition(int cycles, int line, int cycle) {
        Rig rig = waited(cycles);
        rig.read(0, Rig.POSITION).start().steps(1);
        rig.dueRegister("after " + cycles + " cycles", 0, line * 256 + cycle);
    }

    private static void lineZeroAgain() {
        for (int line = 0; line < 12; line++) {
            duePosition(64 * line, line, 0);
            duePosition(64 * line + 60, line, 60);
        }
        duePosition(768, 0, 0);
        duePosition(768 + 60, 0, 60);
        duePosition(768 + 64, 1, 0);
        duePosition(2 * 768 - 4, 11, 60);
        duePosition(2 * 768, 0, 0);
    }

    private static void shownLines() {
        for (int line = 1; line < 12; line++) {
            Rig rig = waiting(new Rig().register(7, 3));
            rig.upTo(0, 64 * line);
            for (int y = 0; y < 8; y++) {
                Check.due("line " + y + " as line " + line + " begins", rig.x.pixel(0, y), y > 0 && y <= line ? 3 : 0);
            }
        }
    }

    private static void behindEachStep() {
        // The step that ends line 7 reads STATUS and POSITION as in line 7.
        Rig rig = waited(508);
        rig.read(0, Rig.CONTROL).read(1, Rig.CONTROL).start().steps(2);
        rig.dueRegister("line 7", 0, 0);
        rig.dueRegister("line 8", 1, 4);
        rig = waited(508);
        rig.read(0, Rig.POSITION).read(1, Rig.POSITION).start().steps(2);
        rig.dueRegister("line 7", 0, 7 * 256 + 60);
        rig.dueRegister("line 8", 1, 8 * 256 + 8);
        // The step that ends line 0 sets register 7: line 1 is drawn with it.
        rig = waited(60);
        rig.register(7, 9).start().steps(1);
        Check.due("line 1", rig.x.pixel(0, 1), 9);
    }

    /**
     * The main one waits while the second reads 115 bytes of ROM that it has not waited for; its next instruction
     * takes 1265 cycles more: 847 cycles, in line 1, become 2128, in line 9 of the turn after the next.
     */
    private static Rig late() {
        Rig rig = new Rig().register(7, 9).write(Rig.RESET, 256).put(Rig.STOP, 0x700).seed(0, 0xC3, 0, 0x81);
        rig.start().steps(2);
        rig.dueStep("one byte", 15);
        Check.due("waiting", rig.x.run(800), 800);
        // 820 given, 10 for the jump, 7 for each byte of ROM.
        rig.dueRegister("bytes of ROM", 15, 0x8100 + 116);
        return rig;
    }

    private static void manyLinesInOneStep() {
        Rig rig = late().register(1, 32).start();
        rig.dueVideo("nothing is pending", 4, 3, 0);
        rig.dueStep("115 bytes are owed", 16 + 11 * 115);
        rig.dueVideo("line 8 began", 4, 3, 6);
        rig = late().register(7, 5).start().steps(1);
        for (int y = 0; y < 8; y++) {
            Check.due("line " + y + " was drawn", rig.x.pixel(15, y), 5);
        }
        rig = late().register(0, 16).start().steps(1);
        rig.dueVideo("lines below 8 began", 4, 3, 4);
        rig = late().put(Rig.NOP).read(0, Rig.POSITION).start().steps(1);
        int done = 847 + 4 + 11 * 115;
        rig.steps(1);
        rig.dueRegister("line and cycle", 0, done / 64 % 12 * 256 + done % 64);
    }

    private static void counterFalls() {
        // Line 1 takes 3 into the counter; lines 2, 3, 4 let it fall to 0; line 5 is told.
        Rig rig = waiting(new Rig().register(8, 3).register(1, 0));
        rig.upTo(0, 64);
        waiting(rig.register(0, 16));
        rig.upTo(64, 5 * 64 - 4);
        rig.dueVideo("lines 2, 3, 4", 4, 3, 0);
        rig.steps(1);
        rig.dueVideo("line 5", 4, 3, 4);
    }

    /** The counter is 0 at first, so line 1 takes register 8; then it falls to 0 and the next line is told. */
    private static void counterValues() {
        for (int value = 0; value < 10; value++) {
            int counter = 0;
            for (int line = 1; line < 24; line++) {
                boolean told = false;
                if (line % 12 >= 8) {
                    counter = value;
                } else if (counter == 0) {
                    counter = value;
                    told = true;
                } else {
                    counter--;
                }
                counterAt(value, line, told);
            }
        }
        counterAt(255, 1, true);
        for (int line = 2; line < 24; line++) {
            counterAt(255, line, false);
        }
    }

    /** Register 0's bit 4 is set in the line before, so one line alone may be told. */
    private static void counterAt(int value, int line, boolean told) {
        Rig rig = waiting(new Rig().register(8, value));
        int before = 64 * line - 40;
        rig.upTo(0, before);
        waiting(rig.register(0, 16));
        rig.upTo(before, 64 * line - 4);
        rig.dueVideo("before line " + line, 4, 3, 0);
        rig.steps(1);
        rig.dueVideo("register 8 = " + value + ": line " + line, 4, 3, told ? 4 : 0);
    }

    private static void levelFour() {
        for (int bit = 0; bit < 8; bit++) {
            Rig rig = waiting(new Rig().register(0, 1 << bit));
            rig.upTo(0, 60);
            rig.dueVideo("before line 1", 4, 3, 0);
            rig.steps(1);
            rig.dueVideo("line 1 begins, register 0 bit " + bit, 4, 3, bit == 4 ? 4 : 0);
        }
        // Without the bit, the counter becomes register 8 all the same.
        Rig rig = waiting(new Rig().register(8, 2).register(0, 0xEF));
        rig.upTo(0, 64);
        waiting(rig.register(0, 16));
        rig.upTo(64, 4 * 64 - 4);
        rig.dueVideo("2, 1, 0", 4, 3, 0);
        rig.steps(1);
        rig.dueVideo("line 4", 4, 3, 4);
    }

    /** Register 8 is 200, then 2 before a hidden line, then 5 as that line has begun. */
    private static void counterInHiddenLines() {
        for (int line = 8; line < 12; line++) {
            Rig rig = waiting(new Rig().register(8, 200));
            int before = line * 64 - 60;
            rig.upTo(0, before);
            waiting(rig.register(8, 2).register(0, 16));
            rig.upTo(before, line * 64);
            waiting(rig.register(8, 5));
            rig.upTo(line * 64, 14 * 64 - 4);
            rig.dueVideo("line 1", 4, 3, 0);
            rig.steps(1);
            // What line 11 took counts: 2 falls to 0 in lines 0 and 1; 5 doesn't.
            rig.dueVideo("line 2, if 2 stood at line " + line, 4, 3, line == 11 ? 4 : 0);
        }
    }

    private static void nothingInHiddenLines() {
        // Register 8 is 0, so that each shown line is told; the bit is set as line 7 has begun.
        Rig rig = waited(7 * 64);
        waiting(rig.register(0, 16));
        rig.upTo(7 * 64, 12 * 64 - 4);
        rig.dueVideo("lines 8 .. 11", 4, 3, 0);
        rig.steps(1);
        rig.dueVideo("line 0", 4, 3, 4);
    }

    private static void levelSix() {
        for (int bit = 0; bit < 8; bit++) {
            Rig rig = waiting(new Rig().register(1, 1 << bit));
            rig.upTo(0, 8 * 64 - 4);
            rig.dueVideo("before line 8", 4, 3, 0);
            rig.steps(1);
            rig.dueVideo("line 8 begins, register 1 bit " + bit, 4, 3, bit == 5 ? 6 : 0);
            rig.dueRegister("MASK 7 waits on", 11, 1);
        }
    }

    private static void levelSixAtLineEightAlone() {
        Rig rig = waited(8 * 64);
        waiting(rig.register(1, 32));
        rig.upTo(8 * 64, 20 * 64 - 4);
        rig.dueVideo("lines 9 .. 11, 0 .. 7", 4, 3, 0);
        rig.steps(1);
        rig.dueVideo("line 8", 4, 3, 6);
    }

    private static void pendingStays() {
        Rig rig = waiting(new Rig().register(1, 32).register(0, 16));
        rig.x.run(512);
        rig.dueVideo("both", 4, 3, 10);
        waiting(rig.register(1, 0).register(0, 0));
        rig.x.run(768);
        rig.dueVideo("though the bits are 0 and line 8 began again", 4, 3, 10);
    }

    private static void statusOfLines() {
        for (int line = 0; line < 13; line++) {
            Rig rig = waited(64 * line);
            rig.read(0, Rig.CONTROL).start().steps(1);
            rig.dueRegister("line " + line, 0, line % 12 >= 8 ? 4 : 0);
        }
    }

    private static void statusOfLevelSix() {
        Rig rig = waiting(new Rig().register(1, 32));
        rig.upTo(0, 512);
        rig.read(0, Rig.CONTROL).read(1, Rig.CONTROL).start().steps(2);
        rig.dueRegister("line 8, level 6 is pending", 0, 12);
        rig.dueRegister("reading takes neither away", 1, 12);
        waiting(rig);
        rig.upTo(512 + 24, 768);
        rig.read(0, Rig.CONTROL).start().steps(1);
        rig.dueRegister("line 0, level 6 is pending", 0, 8);
        // Taken, it is pending no more.
        rig.put(Rig.STOP, 0).at(440, 0x3038, Rig.CONTROL).start().steps(3);
        rig.dueRegister("taken", 0, 0);
        rig = waiting(new Rig().register(0, 16));
        rig.upTo(0, 128);
        rig.dueVideo("level 4", 4, 3, 4);
        rig.read(0, Rig.CONTROL).start().steps(1);
        rig.dueRegister("level 4 isn't in STATUS", 0, 0);
    }
}
