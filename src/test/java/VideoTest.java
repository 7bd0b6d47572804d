/** Promise 10: video. */
public final class VideoTest {
    private VideoTest() {
    }

    public static void main(String[] args) {
        Check.that("-1 when there is none. (no such word)", VideoTest::noSuchWord);
        Check.that("-1 when there is none. (no such kind)", VideoTest::noSuchKind);
        Check.that("Word k of VRAM (kind 0)", VideoTest::vram);
        Check.that("CRAM (1), VSRAM (2), register k (3)", VideoTest::otherMemories);
        Check.that("kind 4: 0 ADDRESS, 1 CODE, 2 whether a word is waited for", VideoTest::ports);
        Check.that("3 what is pending (4 plus 6 as a sum)", VideoTest::pending);
        Check.that("(it changes nothing)", VideoTest::changesNothing);
        Check.end();
    }

    /** A machine in which no word that may be asked for is -1. */
    private static Rig full() {
        return new Rig().register(14, 2).control(1022, Rig.VRAM).data(5).control(30, Rig.CRAM).data(6)
            .control(2, Rig.VSRAM).data(7).register(15, 8).go();
    }

    private static void noSuchWord() {
        Rig rig = full();
        int[] sizes = {512, 16, 2, 16, 4};
        int[] lasts = {5, 6, 7, 8, 0};
        for (int kind = 0; kind < 5; kind++) {
            rig.dueVideo("the last", kind, sizes[kind] - 1, lasts[kind]);
            int[] wrong = {-1, -2, sizes[kind], sizes[kind] + 1, 512, 1024, 65536, Integer.MIN_VALUE, Integer.MAX_VALUE};
            for (int k : wrong) {
                rig.dueVideo("none", kind, k, -1);
            }
        }
    }

    private static void noSuchKind() {
        Rig rig = full();
        int[] kinds = {-1, 5, 6, 256, -4, Integer.MIN_VALUE, Integer.MAX_VALUE};
        for (int kind : kinds) {
            rig.dueVideo("no such kind", kind, 0, -1);
            rig.dueVideo("no such kind", kind, 15, -1);
            rig.dueVideo("no such kind", kind, -1, -1);
        }
    }

    /** 128 words of ROM go to each quarter of VRAM by itself. */
    private static void vram() {
        for (int quarter = 0; quarter < 4; quarter++) {
            Rig rig = new Rig();
            for (int k = 128; k < 256; k++) {
                rig.x.rom(k, 3 * k + 40000);
            }
            rig.register(1, 16).register(14, 2).register(11, 128).register(9, 128).control(256 * quarter, 33).go();
            for (int k = 0; k < 128; k++) {
                rig.dueVideo("written", 0, 128 * quarter + k, 3 * (128 + k) + 40000);
            }
            for (int k = 0; k < 512; k += 7) {
                if (k / 128 != quarter) {
                    rig.dueVideo("not written", 0, k, 0);
                }
            }
        }
    }

    private static void otherMemories() {
        Rig rig = new Rig().register(14, 2).control(0, Rig.CRAM);
        for (int k = 0; k < 16; k++) {
            rig.data(65535 - k);
        }
        rig.control(0, Rig.VSRAM).data(50000, 60000).register(9, 9).go();
        for (int k = 0; k < 16; k++) {
            rig.dueVideo("CRAM", 1, k, 65535 - k);
            rig.dueVideo("registers", 3, k, k == 14 ? 2 : k == 9 ? 9 : 0);
        }
        rig.dueVideo("VSRAM", 2, 0, 50000);
        rig.dueVideo("VSRAM", 2, 1, 60000);
    }

    private static void ports() {
        Rig rig = new Rig().control(0xABCD, 0x1D).write(Rig.CONTROL, 0x4000).control(0, 0).control(0xFFFF, 63)
            .start().steps(2);
        rig.dueVideo("ADDRESS", 4, 0, 0xABCD);
        rig.dueVideo("CODE", 4, 1, 0x1D);
        rig.dueVideo("no word is waited for", 4, 2, 0);
        rig.steps(1);
        rig.dueVideo("a word is waited for", 4, 2, 1);
        rig = new Rig().control(0xFFFF, 63).start().steps(2);
        rig.dueVideo("the largest ADDRESS", 4, 0, 65535);
        rig.dueVideo("the largest CODE", 4, 1, 63);
    }

    private static void pending() {
        Rig rig = new Rig().register(0, 16).register(1, 32).put(Rig.STOP, 0x700).start();
        rig.dueVideo("none", 4, 3, 0);
        rig.x.run(64);
        rig.dueVideo("level 4", 4, 3, 4);
        rig.x.run(448);
        rig.dueVideo("both", 4, 3, 10);
        rig = new Rig().register(1, 32).put(Rig.STOP, 0x700).start();
        rig.x.run(512);
        rig.dueVideo("level 6", 4, 3, 6);
    }

    private static void changesNothing() {
        Rig rig = new Rig().register(14, 2).register(0, 16).control(0, 0).write(Rig.CONTROL, 0x0004).put(Rig.STOP, 0x700)
            .start();
        rig.x.run(128);
        for (int round = 0; round < 3; round++) {
            rig.dueVideo("ADDRESS", 4, 0, 4);
            rig.dueVideo("CODE", 4, 1, 0);
            rig.dueVideo("a word is waited for", 4, 2, 1);
            rig.dueVideo("pending", 4, 3, 4);
            rig.dueVideo("VRAM", 0, 2, 0);
        }
    }
}
