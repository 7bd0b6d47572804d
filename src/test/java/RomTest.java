/** Promise 2: rom. */
public final class RomTest {
    private RomTest() {
    }

    public static void main(String[] args) {
        for (int k = 0; k < 256; k++) {
            TwinConsole x = new TwinConsole();
            Check.due("rom(" + k + ")", x.rom(k, 40000 + k), true);
            Check.due("word " + k, x.memory(2 * k), 40000 + k);
            Check.due("the word before", x.memory(2 * k - 2), 0);
            Check.due("the word behind", x.memory(2 * k + 2), 0);
        }
        int[] wrong = {-1, 256, 257, 512, -256, Integer.MIN_VALUE, Integer.MAX_VALUE};
        TwinConsole x = new TwinConsole();
        for (int k : wrong) {
            Check.due("rom(" + k + ")", x.rom(k, 1), false);
        }
        for (int k = 0; k < 320; k++) {
            Check.due("nothing written", x.memory(2 * k), 0);
        }
        TwinConsole y = new TwinConsole();
        y.rom(5, -1);
        Check.due("the low 16 bits of -1", y.memory(10), 65535);
        y.rom(5, 0x12345);
        Check.due("the low 16 bits of 0x12345", y.memory(10), 0x2345);
        y.rom(5, 0x10000);
        Check.due("written again", y.memory(10), 0);
        Check.end();
    }
}
