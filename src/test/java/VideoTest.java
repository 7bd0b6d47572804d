/** Promise 10: video. */
public final class VideoTest {
    private VideoTest() {
    }

    public static void main(String[] args) {
        wrongNumbers();
        everyWord();
        ports();
        pending();
        Check.end();
    }

    private static void wrongNumbers() {
        Rig rig = new Rig();
        int[] sizes = {512, 16, 2, 16, 4};
        for (int kind = 0; kind < 5; kind++) {
            rig.dueVideo("the first", kind, 0, 0);
            rig.dueVideo("the last", kind, sizes[kind] - 1, 0);
            int[] wrong = {-1, sizes[kind], sizes[kind] + 1, Integer.MIN_VALUE, Integer.MAX_VALUE};
            for (int k : wrong) {
                rig.dueVideo("none", kind, k, -1);
            }
        }
        int[] kinds = {-1, 5, 6, Integer.MIN_VALUE, Integer.MAX_VALUE};
        for (int kind : kinds) {
            rig.dueVideo("no such kind", kind, 0, -1);
        }
    }

    private static void everyWord() {
        // Words k of ROM go to VRAM's first half, the machine's own vectors among them; then to the second half.
        Rig rig = new Rig();
        for (int k = 128; k < 256; k++) {
            rig.x.rom(k, 3 * k + 40000);
        }
        rig.register(1, 16).register(14, 2).register(11, 0).register(12, 1).control(0, 33)
            .register(12, 1).control(512, 33).go();
        for (int k = 0; k < 256; k++) {
            int want = rig.x.memory(2 * k);
            Rig other = rig;
            Check.due("the test's own ROM", k < 128 || want == 3 * k + 40000, true);
            if (k % 3 == 0) {
                other.dueVideo("first half", 0, k, want);
            } else if (k % 3 == 1) {
                other.dueVideo("second half", 0, 256 + k, want);
            }
        }
        rig = new Rig().register(14, 2).control(0, Rig.CRAM);
        for (int k = 0; k < 16; k++) {
            rig.data(65535 - k);
        }
        rig.control(0, Rig.VSRAM).data(50000, 60000).register(9, 9).go();
        for (int k = 0; k < 16; k++) {
            rig.dueVideo("CRAM", 1, k, 65535 - k);
            rig.dueVideo("registers", 3, k, k == 14 ? 2 : k == 9 ? 9 : 0);
        }
        rig.dueVideo("VSRAM", 2, 0, 50000);
        rig.dueVideo("VSRAM", 2, 1, 60000);
    }

    private static void ports() {
        Rig rig = new Rig().control(0xABCD, 0x1D).write(Rig.CONTROL, 0x4000).start().steps(2);
        rig.dueVideo("ADDRESS", 4, 0, 0xABCD);
        rig.dueVideo("CODE", 4, 1, 0x1D);
        rig.dueVideo("no word is waited for", 4, 2, 0);
        rig.steps(1);
        rig.dueVideo("a word is waited for", 4, 2, 1);
    }

    private static void pending() {
        Rig rig = new Rig().register(0, 16).register(1, 32).put(Rig.STOP, 0x700).start();
        rig.dueVideo("none", 4, 3, 0);
        rig.x.run(64);
        rig.dueVideo("level 4", 4, 3, 4);
        rig.x.run(448);
        rig.dueVideo("both", 4, 3, 10);
        rig = new Rig().register(1, 32).put(Rig.STOP, 0x700).start();
        rig.x.run(512);
        rig.dueVideo("level 6", 4, 3, 6);
    }
}
