/** Promise 2: rom. */
public final class RomTest {
    private RomTest() {
    }

    public static void main(String[] args) {
        Check.that("Word k (0 .. 255) of the ROM becomes w's", RomTest::everyWord);
        Check.that("w's low 16 bits", RomTest::lowSixteenBits);
        Check.that("False for another k.", RomTest::anotherK);
        Check.that("(the program sees the new word at once)", RomTest::seenAtOnce);
        Check.end();
    }

    private static void everyWord() {
        for (int k = 0; k < 256; k++) {
            TwinConsole x = new TwinConsole();
            Check.due("rom(" + k + ")", x.rom(k, 40000 + k), true);
            Check.due("word " + k, x.memory(2 * k), 40000 + k);
            Check.due("the word before", x.memory(2 * k - 2), 0);
            Check.due("the word behind", x.memory(2 * k + 2), 0);
        }
    }

    private static void lowSixteenBits() {
        TwinConsole x = new TwinConsole();
        Check.due("rom(5, -1)", x.rom(5, -1), true);
        Check.due("-1", x.memory(10), 65535);
        x.rom(5, 0x12345);
        Check.due("0x12345", x.memory(10), 0x2345);
        x.rom(5, 65535);
        Check.due("65535", x.memory(10), 65535);
        x.rom(5, 65536);
        Check.due("65536", x.memory(10), 0);
        x.rom(5, Integer.MAX_VALUE);
        Check.due("the largest", x.memory(10), 65535);
        x.rom(5, Integer.MIN_VALUE);
        Check.due("the smallest", x.memory(10), 0);
    }

    private static void anotherK() {
        int[] wrong = {-1, 256, 257, 512, -256, -255, 65536, Integer.MIN_VALUE, Integer.MAX_VALUE};
        TwinConsole x = new TwinConsole();
        for (int k : wrong) {
            Check.due("rom(" + k + ")", x.rom(k, 1), false);
        }
        for (int k = 0; k < 320; k++) {
            Check.due("nothing written", x.memory(2 * k), 0);
        }
    }

    private static void seenAtOnce() {
        Rig rig = new Rig().put(0x7001).start().steps(1);
        rig.x.rom(65, 0x7203);
        rig.dueStep("the new word", 4);
        rig.dueRegister("D1", 1, 3);
        rig.dueRegister("PC stays with rom", 9, 132);
    }
}
