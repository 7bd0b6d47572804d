/** Promises 5 and 6: step and run. */
public final class RunTest {
    private RunTest() {
    }

    public static void main(String[] args) {
        wrongNumbers();
        upToANumber();
        sameAsSteps();
        stepsOfEachKind();
        Check.end();
    }

    private static void wrongNumbers() {
        Rig rig = new Rig().put(0x7001, Rig.LOOP).start();
        int[] wrong = {-1, 801, -800, 65536, Integer.MIN_VALUE, Integer.MAX_VALUE};
        for (int cycles : wrong) {
            Check.due("run(" + cycles + ")", rig.x.run(cycles), -1);
        }
        Check.due("run(0)", rig.x.run(0), 0);
        rig.dueRegister("nothing is done", 9, 128);
        rig.dueRegister("nothing is done", 0, 0);
    }

    private static void upToANumber() {
        for (int cycles = 0; cycles <= 800; cycles++) {
            Rig rig = new Rig().put(Rig.LOOP).start();
            Check.due("tens: run(" + cycles + ")", rig.x.run(cycles), (cycles + 9) / 10 * 10);
            rig = new Rig().put(Rig.STOP, 0x700).start();
            Check.due("fours: run(" + cycles + ")", rig.x.run(cycles), (cycles + 3) / 4 * 4);
        }
        Rig rig = new Rig().put(Rig.LOOP).start();
        Check.due("run(1)", rig.x.run(1), 10);
        Check.due("run(800)", rig.x.run(800), 800);
        // Words moved: 2 cycles each, so 400 steps.
        rig = new Rig().register(1, 16).control(0, 33).put(Rig.LOOP).start().steps(3);
        Check.due("run(800)", rig.x.run(800), 800);
        rig.dueRegister("400 of 512 words", 11, 2);
        Check.due("run(223)", rig.x.run(223), 224);
        rig.dueRegister("512 of 512 words", 11, 0);
    }

    private static void sameAsSteps() {
        Rig one = program();
        Rig other = program();
        for (int k = 1; k < 60; k++) {
            int done = 0;
            while (done < 7 * k) {
                done += other.x.step();
            }
            Check.due("run(" + 7 * k + ")", one.x.run(7 * k), done);
            for (int r = 0; r < 17; r++) {
                if (k % 20 == 0) {
                    one.dueRegister("as by steps", r, other.x.register(r));
                }
            }
        }
    }

    private static Rig program() {
        Rig rig = new Rig().register(1, 32).register(0, 16).register(8, 2).write(Rig.RESET, 256)
            .put(Rig.STOP, 0x300, 0xD041, 0x60F8).at(440, 0x7203, Rig.RTE).at(420, 0x7405, 0xD440, Rig.RTE);
        rig.x.seed(0, 0x3A);
        rig.x.seed(1, 9);
        rig.x.seed(2, 0x80);
        rig.x.seed(3, 0xC3);
        return rig.start();
    }

    private static void stepsOfEachKind() {
        Rig rig = new Rig().put(Rig.NOP).start();
        rig.dueStep("an instruction", 4);
        rig = new Rig().put(Rig.STOP, 0x700).start().steps(1);
        rig.dueStep("waiting", 4);
        rig = new Rig().register(1, 16).register(11, 1).control(0, 33).start().steps(4);
        rig.dueStep("a word moved", 2);
        rig = new Rig().register(0, 16).put(Rig.STOP, 0x000).start();
        int steps = 0;
        while (steps < 100 && rig.x.video(4, 3) == 0) {
            rig.x.step();
            steps++;
        }
        rig.dueStep("an interrupt", 44);
    }
}
