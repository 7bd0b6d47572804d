/** Promise 9: seed. */
public final class SeedTest {
    private SeedTest() {
    }

    public static void main(String[] args) {
        Check.that("Byte k (0 .. 127) of the second's RAM becomes v's (as the second reads it)", SeedTest::asTheSecondReads);
        Check.that("Byte k (0 .. 127) of the second's RAM becomes v's (as the main one reads it)", SeedTest::asTheMainOneReads);
        Check.that("v's low eight bits", SeedTest::lowEightBits);
        Check.that("(whoever has it)", SeedTest::whoeverHasIt);
        Check.that("False for another k.", SeedTest::anotherK);
        Check.end();
    }

    private static void asTheSecondReads() {
        for (int k = 3; k < 128; k++) {
            Rig rig = new Rig().write(Rig.RESET, 256).seed(0, 0x3A, k);
            Check.due("seed(" + k + ")", rig.x.seed(k, 255 - k), true);
            rig.start().steps(1);
            rig.dueRegister("byte " + k, 12, 255 - k);
        }
    }

    private static void asTheMainOneReads() {
        for (int k = 0; k < 128; k++) {
            Rig rig = new Rig();
            Check.due("seed(" + k + ")", rig.x.seed(k, 200), true);
            rig.dueMemory("byte", 768 + k, k % 2 == 0 ? 200 * 257 : 0);
            rig.dueMemory("the byte before", 766 + k, 0);
            rig.dueMemory("the byte behind", 770 + k, 0);
        }
    }

    private static void lowEightBits() {
        int[][] cases = {{-1, 255}, {255, 255}, {256, 0}, {0x1234, 0x34}, {-256, 0}, {Integer.MAX_VALUE, 255},
            {Integer.MIN_VALUE, 0}};
        Rig rig = new Rig();
        for (int[] one : cases) {
            Check.due("seed(4, " + one[0] + ")", rig.x.seed(4, one[0]), true);
            rig.dueMemory("byte 4", 772, one[1] * 257);
        }
    }

    private static void whoeverHasIt() {
        Rig rig = new Rig().write(Rig.RESET, 256).put(Rig.NOP).write(Rig.BUSREQ, 256).seed(0, 0x76);
        rig.start().steps(1);
        Check.due("while it runs", rig.x.seed(8, 9), true);
        rig.dueMemory("not seen", 776, 0);
        rig.steps(2);
        rig.dueMemory("seen", 776, 9 * 257);
        Check.due("while it is HELD", rig.x.seed(8, 7), true);
        rig.dueMemory("seen", 776, 7 * 257);
    }

    private static void anotherK() {
        Rig rig = new Rig();
        int[] wrong = {-1, 128, 129, 256, 768, -128, -127, Integer.MIN_VALUE, Integer.MAX_VALUE};
        for (int k : wrong) {
            Check.due("seed(" + k + ")", rig.x.seed(k, 1), false);
        }
        for (int k = 0; k < 128; k++) {
            rig.dueMemory("nothing written", 768 + k, 0);
        }
        // The second itself finds 0 in its odd bytes.
        rig.seed(0, 0x3A, 127).write(Rig.RESET, 256).start().steps(1);
        rig.dueRegister("byte 127", 12, 0);
    }
}
