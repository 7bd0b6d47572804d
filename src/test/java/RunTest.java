/** Promises 5 and 6: step and run. */
public final class RunTest {
    private RunTest() {
    }

    public static void main(String[] args) {
        Check.that("a word is moved while a move from memory is under way; else an interrupt is taken", RunTest::moveBeforeInterrupt);
        Check.that("else an interrupt is taken, or an instruction done", RunTest::interruptBeforeInstruction);
        Check.that("(waiting: 4 cycles)", RunTest::waiting);
        Check.that("Answers the cycles of the main one.", RunTest::cyclesOfEachKind);
        Check.that("Main steps until a number of cycles, 0 .. 800, is done or more: how many were done.", RunTest::everyNumber);
        Check.that("Main steps until a number of cycles (0: none)", RunTest::zero);
        Check.that("Main steps until a number of cycles (800: the most)", RunTest::eightHundred);
        Check.that("is done or more (the last step's cycles count whole)", RunTest::lastStepIsWhole);
        Check.that("-1 for another number.", RunTest::anotherNumber);
        Check.that("Main steps", RunTest::sameAsSteps);
        Check.end();
    }

    /** The program is at 300 after 128 cycles, frozen from 176 on, and line 3 begins at 192. */
    private static void moveBeforeInterrupt() {
        Rig rig = new Rig().register(1, 16).register(11, 20).put(Rig.NOP, Rig.NOP, Rig.NOP).jump(300, 0)
            .at(300, 0x31FC, 0x8010, Rig.CONTROL, 0x31FC, 0x4000, Rig.CONTROL, 0x31FC, 0x0080, Rig.CONTROL, Rig.NOP)
            .start().steps(14);
        rig.dueRegister("MASK 0", 10, 0);
        for (int k = 0; k < 20; k++) {
            rig.dueRegister("frozen", 11, 2);
            rig.dueVideo("level 4 pending behind 8 words", 4, 3, k < 8 ? 0 : 4);
            rig.dueStep("a word", 2);
        }
        rig.dueRegister("frozen no more", 11, 0);
        rig.dueStep("the interrupt", 44);
        rig.dueMemory("PC behind", 636, 318);
    }

    private static void interruptBeforeInstruction() {
        Rig rig = new Rig().register(0, 16).jump(300, 0).at(300, 0x7009).start().steps(7);
        rig.dueVideo("level 4 is pending", 4, 3, 4);
        rig.dueRegister("MASK 0", 10, 0);
        rig.dueStep("the interrupt first", 44);
        rig.dueRegister("the instruction is not done", 0, 0);
        rig.dueMemory("its address is kept", 636, 300);
    }

    private static void waiting() {
        Rig rig = new Rig().put(Rig.STOP, 0x700).start();
        for (int k = 0; k < 20; k++) {
            rig.dueStep("waiting", 4);
            rig.dueRegister("it waits", 11, 1);
            rig.dueRegister("PC", 9, 132);
        }
    }

    private static void cyclesOfEachKind() {
        Rig rig = new Rig().put(Rig.NOP).start();
        rig.dueStep("an instruction", 4);
        rig = new Rig().register(1, 16).register(11, 1).control(0, 33).start().steps(4);
        rig.dueStep("a word moved", 2);
        rig = new Rig().register(0, 16).put(Rig.STOP, 0x000).start();
        rig.upTo(0, 64);
        rig.dueStep("an interrupt", 44);
        rig = new Rig().write(Rig.RESET, 256).put(Rig.NOP).seed(0, 0xC3, 0, 0x81).start().steps(1);
        rig.dueStep("an instruction that waits for ROM", 15);
    }

    private static void everyNumber() {
        for (int cycles = 0; cycles <= 800; cycles++) {
            Rig rig = new Rig().put(Rig.LOOP).start();
            Check.due("tens: run(" + cycles + ")", rig.x.run(cycles), (cycles + 9) / 10 * 10);
            rig = new Rig().put(Rig.STOP, 0x700).start();
            Check.due("fours: run(" + cycles + ")", rig.x.run(cycles), (cycles + 3) / 4 * 4);
        }
    }

    private static void zero() {
        Rig rig = new Rig().put(0x7001, Rig.LOOP).start();
        Check.due("run(0)", rig.x.run(0), 0);
        rig.dueRegister("nothing is done", 9, 128);
        rig.dueRegister("nothing is done", 0, 0);
        Check.due("run(1)", rig.x.run(1), 4);
        rig.dueRegister("one step", 9, 130);
    }

    private static void eightHundred() {
        Rig rig = new Rig().put(Rig.LOOP).start();
        Check.due("run(800)", rig.x.run(800), 800);
        // Words moved: 2 cycles each, so there are 400 steps.
        rig = new Rig().register(1, 16).control(0, 33).put(Rig.LOOP).start().steps(3);
        Check.due("run(800)", rig.x.run(800), 800);
        rig.dueRegister("400 of 512 words", 11, 2);
        Check.due("run(223)", rig.x.run(223), 224);
        rig.dueRegister("512 of 512 words", 11, 0);
    }

    private static void lastStepIsWhole() {
        Rig rig = new Rig().put(0x4AFC).at(400, 0x4AFC).start();
        Check.due("34 is less than 35", rig.x.run(35), 68);
        Check.due("34 is 34", rig.x.run(34), 34);
        // The second reads 116 bytes of ROM while the main one waits; then one instruction has to wait for all of them.
        rig = new Rig().put(Rig.NOP).write(Rig.RESET, 256).put(Rig.STOP, 0x700).seed(0, 0xC3, 0, 0x81).start().steps(3);
        rig.x.run(800);
        rig.x.reset();
        Check.due("run(1)", rig.x.run(1), 4 + 11 * 115);
        rig.x.reset();
        Check.due("run(0)", rig.x.run(0), 0);
    }

    private static void anotherNumber() {
        Rig rig = new Rig().put(0x7001, Rig.LOOP).start();
        int[] wrong = {-1, 801, -800, 1000, 65536, Integer.MIN_VALUE, Integer.MAX_VALUE};
        for (int cycles : wrong) {
            Check.due("run(" + cycles + ")", rig.x.run(cycles), -1);
        }
        rig.dueRegister("nothing is done", 9, 128);
        rig.dueRegister("nothing is done", 0, 0);
        rig.read(0, Rig.POSITION).start().steps(1);
        rig.dueRegister("no cycle went by", 0, 0);
    }

    private static void sameAsSteps() {
        for (int k = 0; k < 80; k++) {
            Rig one = program();
            Rig other = program();
            int before = 10 * k;
            Check.due("run(" + before + ")", one.x.run(before), other.x.run(before));
            int cycles = 7 * k;
            int done = 0;
            while (done < cycles) {
                done += other.x.step();
            }
            Check.due("run(" + cycles + ")", one.x.run(cycles), done);
            for (int r = 0; r < 17; r++) {
                one.dueRegister("as by steps", r, other.x.register(r));
            }
        }
    }

    private static Rig program() {
        return new Rig().register(1, 32).register(0, 16).register(8, 2).write(Rig.RESET, 256)
            .put(Rig.STOP, 0x300, 0xD041, 0x60F8).at(440, 0x7203, Rig.RTE).at(420, 0x7405, 0xD440, Rig.RTE)
            .seed(0, 0x3A, 9, 0x80, 0xC3).start();
    }
}
