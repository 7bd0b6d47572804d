/** Promise 8: register. */
public final class RegisterTest {
    private RegisterTest() {
    }

    public static void main(String[] args) {
        wrongNumbers();
        mainRegisters();
        waitsAndFrozen();
        secondRegisters();
        Check.end();
    }

    private static void wrongNumbers() {
        Rig rig = new Rig();
        int[] wrong = {-1, 17, 18, 32, -8, Integer.MIN_VALUE, Integer.MAX_VALUE};
        for (int r : wrong) {
            rig.dueRegister("none", r, -1);
        }
    }

    private static void mainRegisters() {
        Rig rig = new Rig();
        for (int n = 0; n < 8; n++) {
            rig.put(0x7000 + 512 * n + 16 * n + 1);
        }
        rig.put(0x4E63, Rig.STOP, 0x30F).start().steps(10);
        for (int n = 0; n < 8; n++) {
            rig.dueRegister("D" + n, n, 16 * n + 1);
        }
        rig.dueRegister("S", 8, 49);
        rig.dueRegister("PC", 9, 128 + 22);
        rig.dueRegister("MASK and flags", 10, 0x30F);
    }

    private static void waitsAndFrozen() {
        Rig rig = new Rig().register(1, 16).register(11, 1).control(0, 33).put(Rig.STOP, 0x700).start();
        rig.steps(3);
        rig.dueRegister("neither", 11, 0);
        rig.steps(1);
        rig.dueRegister("frozen", 11, 2);
        rig.steps(1);
        rig.dueRegister("neither", 11, 0);
        rig.steps(1);
        rig.dueRegister("waits", 11, 1);
    }

    private static void secondRegisters() {
        Rig rig = new Rig().write(Rig.RESET, 256).put(Rig.NOP, Rig.NOP, Rig.NOP, Rig.NOP, Rig.NOP);
        int[] bytes = {0x3E, 0xF1, 0x47, 0x3E, 0x32, 0x67, 0x3E, 0x01, 0xFB, 0x3D, 0x3E, 0x77, 0x76};
        for (int k = 0; k < bytes.length; k++) {
            rig.x.seed(k, bytes[k]);
        }
        rig.dueRegister("in RESET", 16, 16);
        rig.start().steps(1);
        rig.dueRegister("running", 16, 0);
        rig.dueRegister("A", 12, 0x32);
        rig.dueRegister("B", 13, 0xF1);
        rig.steps(5);
        rig.dueRegister("H", 14, 0x32);
        rig.dueRegister("A", 12, 0);
        rig.dueRegister("Z, lets in", 16, 5);
        rig.dueRegister("PC", 15, 10);
        rig.write(Rig.BUSREQ, 0).put(Rig.NOP, Rig.NOP).write(Rig.BUSREQ, 256).write(Rig.RESET, 0).start().steps(3);
        rig.dueRegister("A", 12, 0x77);
        rig.dueRegister("PC", 15, 13);
        rig.dueRegister("HALTED too", 16, 7);
        rig.steps(1);
        rig.dueRegister("HELD too", 16, 15);
        rig.steps(1);
        rig.dueRegister("in RESET too", 16, 31);
    }
}
