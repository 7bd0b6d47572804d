/** Promise 9: seed. */
public final class SeedTest {
    private SeedTest() {
    }

    public static void main(String[] args) {
        everyByte();
        wrongNumbers();
        lowEightBits();
        whoeverHasIt();
        Check.end();
    }

    private static void everyByte() {
        // The second reads byte k, so that odd ones are seen too.
        for (int k = 3; k < 128; k++) {
            Rig rig = new Rig().write(Rig.RESET, 256);
            rig.x.seed(0, 0x3A);
            rig.x.seed(1, k);
            Check.due("seed(" + k + ")", rig.x.seed(k, 255 - k), true);
            rig.start().steps(1);
            rig.dueRegister("byte " + k, 12, 255 - k);
        }
        for (int k = 0; k < 128; k += 2) {
            Rig rig = new Rig();
            Check.due("seed(" + k + ")", rig.x.seed(k, 200), true);
            rig.dueMemory("byte", 768 + k, 200 * 257);
            rig.dueMemory("the byte before", 766 + k, 0);
            rig.dueMemory("the byte behind", 770 + k, 0);
        }
    }

    private static void wrongNumbers() {
        Rig rig = new Rig();
        int[] wrong = {-1, 128, 129, 256, 768, -128, Integer.MIN_VALUE, Integer.MAX_VALUE};
        for (int k : wrong) {
            Check.due("seed(" + k + ")", rig.x.seed(k, 1), false);
        }
        for (int k = 0; k < 128; k++) {
            rig.dueMemory("nothing written", 768 + k, 0);
        }
    }

    private static void lowEightBits() {
        Rig rig = new Rig();
        rig.x.seed(4, -1);
        rig.dueMemory("-1", 772, 65535);
        rig.x.seed(4, 0x1234);
        rig.dueMemory("0x1234", 772, 0x3434);
        rig.x.seed(4, 256);
        rig.dueMemory("256", 772, 0);
    }

    private static void whoeverHasIt() {
        Rig rig = new Rig().write(Rig.RESET, 256).put(Rig.NOP).write(Rig.BUSREQ, 256);
        rig.x.seed(0, 0x76);
        rig.start().steps(1);
        Check.due("while it runs", rig.x.seed(8, 9), true);
        rig.dueMemory("not seen", 776, 0);
        rig.steps(2);
        rig.dueMemory("seen", 776, 9 * 257);
        Check.due("while it is HELD", rig.x.seed(8, 7), true);
        rig.dueMemory("seen", 776, 7 * 257);
    }
}
