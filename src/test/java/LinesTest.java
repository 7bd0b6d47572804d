/** Promise 5: lines, the counter, and the interrupts of both levels. */
public final class LinesTest {
    private LinesTest() {
    }

    public static void main(String[] args) {
        position();
        levelSix();
        levelFour();
        counterValues();
        counterInHiddenLines();
        higherFirst();
        masks();
        waitingEnds();
        pendingAtStatus();
        interruptPortsOrder();
        manyLinesInOneStep();
        Check.end();
    }

    /** Waits with MASK 7 and no flags, in steps of four cycles. */
    private static Rig waiting(Rig rig) {
        return rig.put(Rig.STOP, 0x700).start();
    }

    private static void position() {
        Rig rig = new Rig().read(0, Rig.POSITION).read(1, Rig.POSITION).put(0x60F6).start();
        int line = 0;
        int cycle = 0;
        for (int k = 0; k < 120; k++) {
            int r = k % 3;
            int cycles = r == 2 ? 10 : 12;
            rig.dueStep("reading", cycles);
            if (r != 2) {
                rig.dueRegister("line and cycle as the step began", r, line * 256 + cycle);
            }
            cycle += cycles;
            line = (line + cycle / 64) % 12;
            cycle %= 64;
        }
        rig = new Rig().write(Rig.POSITION, 0x0505).read(0, Rig.POSITION).read(1, Rig.POSITION + 1).start().steps(3);
        rig.dueRegister("writing does nothing", 0, 16);
        rig.dueRegister("odd", 1, 0);
    }

    private static void levelSix() {
        for (int bit = 0; bit < 8; bit++) {
            Rig rig = waiting(new Rig().register(1, 1 << bit));
            rig.upTo(0, 8 * 64 - 4);
            rig.dueVideo("before line 8", 4, 3, 0);
            rig.steps(1);
            rig.dueVideo("line 8 begins, register 1 bit " + bit, 4, 3, bit == 5 ? 6 : 0);
            rig.dueRegister("MASK 7 waits on", 11, 1);
        }
        Rig rig = waiting(new Rig().register(1, 32));
        rig.upTo(0, 12 * 64);
        rig.register(1, 0).put(Rig.STOP, 0x700).start();
        rig.upTo(0, 12 * 64);
        rig.dueVideo("it stays pending", 4, 3, 6);
    }

    private static void levelFour() {
        for (int bit = 0; bit < 8; bit++) {
            Rig rig = waiting(new Rig().register(0, 1 << bit));
            rig.upTo(0, 60);
            rig.dueVideo("before line 1", 4, 3, 0);
            rig.steps(1);
            rig.dueVideo("line 1 begins, register 0 bit " + bit, 4, 3, bit == 4 ? 4 : 0);
        }
    }

    /** The counter is 0 at first, so line 1 takes register 8; then it falls to 0 and the next line is told. */
    private static void counterValues() {
        for (int value = 0; value < 10; value++) {
            int counter = 0;
            for (int line = 1; line < 24; line++) {
                boolean told = false;
                if (line % 12 >= 8) {
                    counter = value;
                } else if (counter == 0) {
                    counter = value;
                    told = true;
                } else {
                    counter--;
                }
                counterAt(value, line, told);
            }
        }
        counterAt(255, 1, true);
        for (int line = 2; line < 24; line++) {
            counterAt(255, line, false);
        }
    }

    /** Register 0's bit 4 is set in the line before, so one line alone may be told. */
    private static void counterAt(int value, int line, boolean told) {
        Rig rig = waiting(new Rig().register(8, value));
        int before = 64 * line - 40;
        rig.upTo(0, before);
        waiting(rig.register(0, 16));
        rig.upTo(before, 64 * line - 4);
        rig.dueVideo("before line " + line, 4, 3, 0);
        rig.steps(1);
        rig.dueVideo("register 8 = " + value + ": line " + line, 4, 3, told ? 4 : 0);
    }

    /** In lines 8 .. 11 the counter becomes register 8 at each beginning, and nothing is pending for it. */
    private static void counterInHiddenLines() {
        Rig rig = new Rig().register(8, 200).put(Rig.STOP, 0x700).start();
        rig.upTo(0, 11 * 64 - 60);
        rig.register(8, 2).register(0, 16).put(Rig.STOP, 0x700).start();
        rig.upTo(11 * 64 - 60, 11 * 64);
        rig.register(8, 5).put(Rig.STOP, 0x700).start();
        rig.upTo(11 * 64, 14 * 64 - 4);
        rig.dueVideo("2 of line 11 fell to 0 at line 1", 4, 3, 0);
        rig.steps(1);
        rig.dueVideo("it was 0 at line 2", 4, 3, 4);
    }

    private static void higherFirst() {
        Rig rig = waiting(new Rig().register(1, 32).register(0, 16));
        rig.upTo(0, 9 * 64);
        rig.dueVideo("both", 4, 3, 10);
        rig.put(Rig.STOP, 0x30A).at(440, Rig.RTE).at(420, Rig.NOP).start().steps(1);
        rig.dueStep("level 6", 44);
        rig.dueVideo("level 4 is pending still", 4, 3, 4);
        rig.dueRegister("PC", 9, 440);
        rig.dueRegister("MASK 6, flags stay", 10, 0x60A);
        rig.dueRegister("waits no more", 11, 0);
        rig.dueMemory("MASK as it was, and flags", 632, 0x30A);
        rig.dueMemory("0", 634, 0);
        rig.dueMemory("PC behind", 636, 132);
        rig.dueRegister("S", 8, 632);
        rig.dueStep("back, level 4 is not above 6", 20);
        rig.dueRegister("PC", 9, 132);
        rig.dueRegister("MASK", 10, 0x30A);
        rig.dueStep("level 4", 44);
        rig.dueVideo("none", 4, 3, 0);
        rig.dueRegister("PC", 9, 420);
        rig.dueRegister("MASK 4", 10, 0x40A);
        rig.dueStep("an instruction", 4);
    }

    private static void masks() {
        for (int mask = 0; mask < 8; mask++) {
            Rig rig = waiting(new Rig().register(1, 32));
            rig.upTo(0, 9 * 64);
            rig.jump(300, 256 * mask).at(300, Rig.NOP).start().steps(6);
            rig.dueStep("level 6 with MASK " + mask, mask < 6 ? 44 : 4);
            rig.dueRegister("MASK then", 10, mask < 6 ? 0x600 : 256 * mask);
            rig = waiting(new Rig().register(0, 16));
            rig.upTo(0, 9 * 64);
            rig.jump(300, 256 * mask).at(300, Rig.NOP).start().steps(6);
            rig.dueStep("level 4 with MASK " + mask, mask < 4 ? 44 : 4);
            rig.dueRegister("MASK then", 10, mask < 4 ? 0x400 : 256 * mask);
        }
    }

    private static void waitingEnds() {
        Rig rig = new Rig().register(1, 32).put(Rig.STOP, 0x500, 0x7001).at(440, 0x7209, Rig.RTE).start();
        rig.upTo(0, 512);
        rig.dueRegister("waits", 11, 1);
        rig.dueStep("the interrupt", 44);
        rig.dueRegister("waits no more", 11, 0);
        rig.steps(2);
        rig.dueRegister("D1", 1, 9);
        rig.dueRegister("behind the waiting", 9, 138);
        rig.dueStep("on", 4);
        rig.dueRegister("D0", 0, 1);
    }

    private static void pendingAtStatus() {
        Rig rig = new Rig().register(1, 32).put(Rig.STOP, 0x700).start();
        rig.upTo(0, 512);
        rig.read(0, Rig.CONTROL).read(1, Rig.CONTROL).start().steps(2);
        rig.dueRegister("line 8 or more, level 6 is pending", 0, 12);
        rig.dueRegister("reading takes neither away", 1, 12);
        rig.put(Rig.STOP, 0x700).start();
        rig.upTo(512 + 24, 768);
        rig.read(0, Rig.CONTROL).start().steps(1);
        rig.dueRegister("line 0, level 6 is pending", 0, 8);
        rig = new Rig().put(Rig.STOP, 0x700).start();
        rig.upTo(0, 508);
        rig.read(0, Rig.CONTROL).read(1, Rig.CONTROL).start().steps(2);
        rig.dueRegister("line 7", 0, 0);
        rig.dueRegister("line 8", 1, 4);
        rig = new Rig().register(0, 16).put(Rig.STOP, 0x700).start();
        rig.upTo(0, 128);
        rig.dueVideo("level 4", 4, 3, 4);
        rig.read(0, Rig.CONTROL).start().steps(1);
        rig.dueRegister("level 4 isn't in STATUS", 0, 0);
    }

    /** With S = 1030 an interrupt goes through the ports as any exception. */
    private static void interruptPortsOrder() {
        Rig rig = new Rig().register(1, 32).put(Rig.STOP, 0x700).start();
        rig.upTo(0, 512);
        rig.register(14, 2).control(8, Rig.VRAM).stackAt(1030).put(Rig.STOP, 0x105).start().steps(7);
        rig.dueStep("the interrupt", 44);
        rig.dueVideo("MASK and flags to DATA", 0, 4, 0x105);
        rig.dueVideo("PC to CONTROL", 4, 0, 162);
        rig.dueRegister("MASK", 10, 0x605);
    }

    /** The main one waits while the second reads ROM; then it owes so much that lines go on far. */
    private static void manyLinesInOneStep() {
        Rig rig = new Rig().register(7, 9).write(Rig.RESET, 256).put(Rig.STOP, 0x700);
        rig.x.seed(0, 0xC3);
        rig.x.seed(1, 0);
        rig.x.seed(2, 0x81);
        rig.start().steps(2);
        rig.dueRegister("a byte of ROM", 15, 0x8101);
        rig.dueStep("it was owed", 15);
        Check.due("waiting", rig.x.run(800), 800);
        // 820 given, 10 for the jump, 7 for each byte of ROM.
        rig.dueRegister("bytes of ROM", 15, 0x8100 + 116);
        rig.register(1, 32).register(7, 5).read(0, Rig.POSITION).start();
        rig.dueVideo("nothing is pending", 4, 3, 0);
        // 847 cycles are line 1; 847 + 1281 are line 9 of the turn after the next.
        rig.dueStep("115 bytes are owed", 16 + 11 * 115);
        rig.dueVideo("line 8 began", 4, 3, 6);
        int more = rig.x.step() - 16;
        rig.steps(1);
        int done = 847 + 1281 + 16 + more;
        rig.dueRegister("line and cycle", 0, done / 64 % 12 * 256 + done % 64);
    }
}
