import java.util.ArrayList;
import java.util.List;
import java.util.Random;

/** Promises 5 and 11: pictures of any VRAM against a second, slower way to draw them. */
public final class RandomPicturesTest {
    private RandomPicturesTest() {
    }

    public static void main(String[] args) {
        Check.that("DRAWING line y", RandomPicturesTest::pictures);
        Check.end();
    }

    private static void pictures() {
        for (int round = 0; round < 1500; round++) {
            picture(new Random(round), round);
        }
    }

    /** Fills VRAM by moves from ROM, draws with random registers, and compares all lines and STATUS. */
    private static void picture(Random random, int round) {
        Rig rig = new Rig();
        int[] registers = new int[16];
        for (int r : new int[] {2, 3, 4, 5, 7, 13}) {
            registers[r] = random.nextInt(256);
            rig.register(r, registers[r]);
        }
        int[] vsram = {random.nextInt(65536), random.nextInt(65536)};
        rig.register(14, 2).control(0, Rig.VSRAM).data(vsram).register(1, 64 + 16).register(9, 128).go();
        int half = random.nextInt(2);
        for (int k = 0; k < 4; k++) {
            rig.register(11, 128).control(256 * k, Rig.VRAM + 32);
        }
        int[] vram = new int[512];
        for (int k = 0; k < 128; k++) {
            int w = random.nextInt(65536);
            // Small numbers bring sprites onto the screen, and pixels that are seen through.
            w = half == 0 ? w : w & 0x9F37 & random.nextInt(65536);
            rig.x.rom(128 + k, w);
            for (int quarter = 0; quarter < 4; quarter++) {
                vram[128 * quarter + k] = w;
            }
        }
        rig.put(Rig.STOP, 0x700).start();
        for (int k = 0; k < 3; k++) {
            rig.x.run(800);
        }
        rig.dueRegister("waits", 11, 1);
        // STATUS tells what was met since it was read last: read it, then draw every line once.
        rig.read(0, Rig.CONTROL).put(Rig.STOP, 0x700).start();
        rig.x.run(772);
        rig.read(0, Rig.CONTROL).start();
        boolean[] met = new boolean[2];
        for (int y = 0; y < 8; y++) {
            int[] want = line(vram, vsram, registers, y, met);
            for (int x = 0; x < 16; x++) {
                Check.due("round " + round + ": pixel(" + x + ", " + y + ")", rig.x.pixel(x, y), want[x]);
            }
        }
        rig.x.step();
        Check.due("round " + round + ": STATUS", rig.x.register(0) & 96, (met[0] ? 32 : 0) + (met[1] ? 64 : 0));
    }

    private static int[] line(int[] vram, int[] vsram, int[] registers, int y, boolean[] met) {
        int[][] sprite = spriteLine(vram, registers, y, met);
        int[] out = new int[16];
        for (int x = 0; x < 16; x++) {
            boolean still = x / 4 < registers[3] % 8;
            int scroll = registers[13] % 32 * 16;
            int[] a = still ? plane(vram, registers[2], x, y)
                : plane(vram, registers[2], x - vram[scroll], y + vsram[0]);
            int[] b = plane(vram, registers[4], x - vram[scroll + 1], y + vsram[1]);
            int[][] layers = {sprite[x], a, b};
            out[x] = registers[7] % 16;
            boolean found = false;
            for (int high = 1; high >= 0; high--) {
                for (int k = 0; k < 3 && !found; k++) {
                    if (layers[k][0] != 0 && layers[k][1] == high) {
                        out[x] = layers[k][0];
                        found = true;
                    }
                }
            }
        }
        return out;
    }

    /** Colour and height of a plane's pixel. */
    private static int[] plane(int[] vram, int register, int x, int y) {
        int planeX = Math.floorMod(x, 32);
        int planeY = Math.floorMod(y, 16);
        return dot(vram, vram[register % 16 * 32 + planeY / 4 * 8 + planeX / 4], planeX % 4, planeY % 4);
    }

    private static int[] dot(int[] vram, int name, int column, int row) {
        String bits = Integer.toBinaryString(name + 65536);
        // The highest bit is a 1 put before, so bit k is at 16 - k.
        int j = bits.charAt(16 - 12) == '1' ? 3 - row : row;
        int i = bits.charAt(16 - 11) == '1' ? 3 - column : column;
        String word = Integer.toHexString(vram[name % 128 * 4 + j] + 65536);
        return new int[] {Character.digit(word.charAt(1 + i), 16), bits.charAt(1) == '1' ? 1 : 0};
    }

    private static int[][] spriteLine(int[] vram, int[] registers, int y, boolean[] met) {
        List<Integer> onLine = new ArrayList<>();
        int at = registers[5] % 16 * 32;
        int sprite = 0;
        for (int k = 0; k < 8; k++) {
            int words = at + 4 * sprite;
            int top = vram[words] % 64 - 16;
            if (y >= top && y <= top + 3) {
                onLine.add(words);
            }
            sprite = vram[words + 1] % 8;
            if (sprite == 0) {
                break;
            }
        }
        int taken = onLine.size();
        for (int k = onLine.size() - 1; k > 0; k--) {
            if (vram[onLine.get(k) + 3] % 64 == 0 && k < 3) {
                taken = k;
            }
        }
        if (taken > 3) {
            met[1] = true;
            taken = 3;
        }
        int[][] out = new int[16][2];
        for (int words : onLine.subList(0, taken)) {
            for (int column = 0; column < 4; column++) {
                int x = vram[words + 3] % 64 - 16 + column;
                int[] dot = dot(vram, vram[words + 2], column, y - (vram[words] % 64 - 16));
                if (x >= 0 && x < 16 && dot[0] != 0) {
                    met[0] = met[0] || out[x][0] != 0;
                    out[x] = out[x][0] != 0 ? out[x] : dot;
                }
            }
        }
        return out;
    }
}
