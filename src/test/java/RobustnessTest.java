import java.util.Random;

/** All promises: no call throws or fails to end, whatever the program and the arguments are. */
public final class RobustnessTest {
    private static final int[] SOME_WORDS = {
        0x31FC, 0x31FC, 0x31FC, 0x31C0, 0x3038, 0x3238, 0x4E71, 0x4E72, 0x4E73, 0x4E60, 0x7001, 0xD040, 0xB041,
        0x60FE, 0x6602, 1024, 1028, 1032, 1040, 1044, 1048, 512, 768, 0x0100, 0x0000, 0x4000, 0x0080, 0x8114, 0x8170,
        0x8F80, 0x8FC0, 0x8E02, 0x8B04, 0x8010, 0x9A30, 0x0300};
    private static final int[] SOME_BYTES = {0x3E, 0x47, 0x78, 0x67, 0x3C, 0x80, 0x3D, 0x32, 0x3A, 0x20, 0xC3, 0x76,
        0xFB, 0xF3, 0xC9, 0x00, 0x80, 0x81, 0xFF};

    private RobustnessTest() {
    }

    public static void main(String[] args) {
        for (int round = 0; round < 3000; round++) {
            int number = round;
            Check.that("(no call throws or fails to end)", () -> round(new Random(number), number));
        }
        Check.end();
    }

    private static void round(Random random, int round) {
        TwinConsole x = new TwinConsole();
        for (int k = 0; k < 256; k++) {
            x.rom(k, random.nextInt(4) == 0 ? random.nextInt() : SOME_WORDS[random.nextInt(SOME_WORDS.length)]);
        }
        for (int k = 0; k < 128; k++) {
            x.seed(k, SOME_BYTES[random.nextInt(SOME_BYTES.length)]);
        }
        x.rom(1, 512 + 2 * random.nextInt(64));
        x.rom(3, 128);
        if (random.nextBoolean()) {
            x.reset();
        }
        for (int k = 0; k < 75; k++) {
            call(x, random, round);
        }
        ranges(x, round);
    }

    private static int any(Random random) {
        switch (random.nextInt(4)) {
            case 0:
                return random.nextInt();
            case 1:
                return random.nextInt(20) - 2;
            case 2:
                return random.nextInt(1100) - 20;
            default:
                return random.nextBoolean() ? Integer.MIN_VALUE : Integer.MAX_VALUE;
        }
    }

    private static void call(TwinConsole x, Random random, int round) {
        switch (random.nextInt(11)) {
            case 0:
                x.rom(any(random), any(random));
                break;
            case 1:
                x.seed(any(random), any(random));
                break;
            case 2:
                x.pad(any(random));
                break;
            case 3:
                x.memory(any(random));
                break;
            case 4:
                x.register(any(random));
                break;
            case 5:
                x.video(any(random), any(random));
                break;
            case 6:
                x.pixel(any(random), any(random));
                break;
            case 7:
                if (random.nextInt(10) == 0) {
                    x.reset();
                }
                break;
            case 8:
                Check.due("round " + round + ": a step's cycles", x.step() >= 2, true);
                break;
            case 9:
                int cycles = random.nextInt(801);
                Check.due("round " + round + ": run's cycles", x.run(cycles) >= cycles, true);
                break;
            default:
                x.run(any(random));
                break;
        }
    }

    private static void ranges(TwinConsole x, int round) {
        for (int r = 8; r < 17; r++) {
            int most = r == 10 ? 0x70F : r == 11 ? 2 : r == 16 ? 31 : r >= 12 && r < 15 ? 255 : 65535;
            int got = x.register(r);
            Check.due("round " + round + ": the range of register " + r, got >= 0 && got <= most, true);
        }
        for (int k = 0; k < 16; k++) {
            int register = x.video(3, k);
            int pixel = x.pixel(k, k % 8);
            Check.due("round " + round + ": a register's range", register >= 0 && register < 256, true);
            Check.due("round " + round + ": a pixel's range", pixel >= 0 && pixel < 16, true);
        }
        Check.due("round " + round + ": ADDRESS's range", x.video(4, 0) >= 0 && x.video(4, 0) < 65536, true);
        Check.due("round " + round + ": CODE's range", x.video(4, 1) >= 0 && x.video(4, 1) < 64, true);
    }
}
