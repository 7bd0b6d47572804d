/** Promise 8: register. */
public final class RegisterTest {
    private RegisterTest() {
    }

    public static void main(String[] args) {
        Check.that("-1 for another.", RegisterTest::another);
        Check.that("Register r: 0 .. 7 D0 .. D7, 8 S, 9 PC, 10 MASK and flags as a word", RegisterTest::mainRegisters);
        Check.that("D0 .. D7 (32 bits)", RegisterTest::allBitsOfD);
        Check.that("11 1 if it waits, 2 if it is frozen", RegisterTest::waitsAndFrozen);
        Check.that("12 .. 15 A, B, H, PC of the second", RegisterTest::secondRegisters);
        Check.that("16 its flag Z, plus 2 if HALTED, 4 if interrupts are let in, 8 if HELD, 16 if in RESET",
            RegisterTest::secondsState);
        Check.that("(the largest of each)", RegisterTest::largest);
        Check.end();
    }

    private static void another() {
        Rig rig = new Rig();
        int[] wrong = {-1, 17, 18, 32, -8, -16, 256, Integer.MIN_VALUE, Integer.MAX_VALUE};
        for (int r : wrong) {
            rig.dueRegister("none", r, -1);
        }
        rig.dueRegister("the first", 0, 0);
        rig.dueRegister("the last", 16, 16);
    }

    private static void mainRegisters() {
        Rig rig = new Rig();
        for (int n = 0; n < 8; n++) {
            rig.put(0x7000 + 512 * n + 16 * n + 1);
        }
        rig.put(0x4E63, Rig.STOP, 0x30F).start().steps(10);
        for (int n = 0; n < 8; n++) {
            rig.dueRegister("D" + n, n, 16 * n + 1);
        }
        rig.dueRegister("S", 8, 49);
        rig.dueRegister("PC", 9, 128 + 22);
        rig.dueRegister("MASK and flags", 10, 0x30F);
    }

    private static void allBitsOfD() {
        Rig rig = new Rig().put(0x70FF, 0x7280).start().steps(2);
        rig.dueRegister("all bits", 0, -1);
        rig.dueRegister("-128", 1, -128);
        rig = new Rig().put(0x70FF, 0x7200, 0x3001).start().steps(3);
        rig.dueRegister("the high word stays", 0, 0xFFFF0000);
    }

    private static void waitsAndFrozen() {
        Rig rig = new Rig().register(1, 16).register(11, 1).control(0, 33).put(Rig.STOP, 0x700).start();
        rig.steps(3);
        rig.dueRegister("neither", 11, 0);
        rig.steps(1);
        rig.dueRegister("frozen", 11, 2);
        rig.steps(1);
        rig.dueRegister("neither", 11, 0);
        rig.steps(1);
        rig.dueRegister("waits", 11, 1);
    }

    private static void secondRegisters() {
        // 7 + 4 + 7 + 4 + 7 cycles of 32.
        Rig rig = new Rig().seed(0, 0x3E, 0xF1, 0x47, 0x3E, 0x32, 0x67, 0x3E, 0x77, 0x76).write(Rig.RESET, 256)
            .write(512, 0).start().steps(2);
        rig.dueRegister("A", 12, 0x77);
        rig.dueRegister("B", 13, 0xF1);
        rig.dueRegister("H", 14, 0x32);
        rig.dueRegister("PC", 15, 9);
    }

    private static void secondsState() {
        Rig rig = new Rig().seed(0, 0x3E, 1, 0x3D, 0xFB, 0x76).write(Rig.RESET, 256).put(Rig.NOP)
            .write(Rig.BUSREQ, 256).write(Rig.RESET, 0).write(Rig.BUSREQ, 0);
        rig.dueRegister("in RESET", 16, 16);
        rig.start().steps(1);
        // 7 + 4 + 4 of 16, then HALTED.
        rig.dueRegister("Z, lets in, HALTED", 16, 7);
        rig.steps(2);
        rig.dueRegister("HELD too", 16, 15);
        rig.steps(1);
        rig.dueRegister("in RESET too", 16, 31);
        rig.steps(1);
        rig.dueRegister("not HELD", 16, 23);
        new Rig().seed(0, 0x3E, 1, 0x3D).out().dueRegister("Z", 16, 1);
        new Rig().seed(0, 0xFB).out().dueRegister("lets in", 16, 4);
        new Rig().seed(0, 0x76).out().dueRegister("HALTED", 16, 2);
        new Rig().out().dueRegister("none", 16, 0);
    }

    private static void largest() {
        Rig rig = new Rig().put(0x70FF, 0x4E60, Rig.STOP, 0xFFFF).start().steps(3);
        rig.dueRegister("S", 8, 65535);
        rig.dueRegister("MASK and flags", 10, 0x70F);
        TwinConsole x = new TwinConsole();
        x.rom(3, 0xFFFF);
        x.reset();
        Check.due("PC", x.register(9), 65535);
        // 7 + 4 + 4 of 16 cycles, then a jump.
        rig = new Rig().seed(0, 0x3E, 0xFF, 0x47, 0x67, 0xC3, 0xFF, 0xFF).out();
        rig.dueRegister("A", 12, 255);
        rig.dueRegister("B", 13, 255);
        rig.dueRegister("H", 14, 255);
        rig.dueRegister("PC of the second", 15, 65535);
    }
}
