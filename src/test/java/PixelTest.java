/** Promise 11: pixel. */
public final class PixelTest {
    private PixelTest() {
    }

    public static void main(String[] args) {
        wrongNumbers();
        asDrawnLast();
        Check.end();
    }

    private static void wrongNumbers() {
        Rig rig = new Rig().register(7, 6).draw();
        int[] xs = {-1, 16, 17, -16, Integer.MIN_VALUE, Integer.MAX_VALUE};
        int[] ys = {-1, 8, 9, 11, -8, Integer.MIN_VALUE, Integer.MAX_VALUE};
        for (int x : xs) {
            Check.due("pixel(" + x + ", 1)", rig.x.pixel(x, 1), -1);
        }
        for (int y : ys) {
            Check.due("pixel(1, " + y + ")", rig.x.pixel(1, y), -1);
        }
        Check.due("pixel(0, 0)", rig.x.pixel(0, 0), 6);
        Check.due("pixel(15, 7)", rig.x.pixel(15, 7), 6);
        Check.due("pixel(16, -1)", rig.x.pixel(16, -1), -1);
    }

    /** Each line keeps what was there as it began; CRAM changes nothing, and reset leaves the picture. */
    private static void asDrawnLast() {
        Rig rig = new Rig().register(14, 2).control(0, Rig.CRAM).data(0xEEE, 0xEEE).register(7, 1).draw();
        for (int y = 0; y < 8; y++) {
            Check.due("a number, not a colour", rig.x.pixel(3, y), 1);
        }
        rig.x.reset();
        Check.due("after reset", rig.x.pixel(3, 3), 1);
        // All of the plane's 16 pixels on each of the 8 lines are different from their neighbours.
        rig = new Rig().register(1, 64).register(2, 1).register(4, 1).register(5, 15).register(13, 1)
            .vram(4, 0x1234, 0x2341, 0x3412, 0x4123, 0x5678, 0x6785, 0x7856, 0x8567)
            .vram(32, 1, 2, 1, 2, 0, 0, 0, 0, 2, 1, 2, 1).draw();
        String[] a = {"1234", "2341", "3412", "4123"};
        String[] b = {"5678", "6785", "7856", "8567"};
        for (int y = 0; y < 8; y++) {
            String first = y < 4 ? a[y] : b[y - 4];
            String other = y < 4 ? b[y] : a[y - 4];
            rig.dueLine("each pixel", y, first + other + first + other);
        }
    }
}
