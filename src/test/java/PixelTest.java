/** Promise 11: pixel. */
public final class PixelTest {
    private PixelTest() {
    }

    public static void main(String[] args) {
        Check.that("-1 when there is none. (x)", PixelTest::noSuchX);
        Check.that("-1 when there is none. (y)", PixelTest::noSuchY);
        Check.that("Pixel x of line y", PixelTest::everyPixel);
        Check.that("as it was drawn last", PixelTest::asDrawnLast);
        Check.that("as it was drawn last (not drawn yet)", PixelTest::notDrawnYet);
        Check.that("each 0 .. 15 (a colour is CRAM's word of it)", PixelTest::aNumberNotAColour);
        Check.end();
    }

    private static void noSuchX() {
        Rig rig = new Rig().register(7, 6).draw();
        int[] xs = {-1, 16, 17, -16, 128, 256, Integer.MIN_VALUE, Integer.MAX_VALUE};
        for (int x : xs) {
            for (int y = 0; y < 8; y++) {
                Check.due("pixel(" + x + ", " + y + ")", rig.x.pixel(x, y), -1);
            }
        }
        Check.due("pixel(0, 0)", rig.x.pixel(0, 0), 6);
        Check.due("pixel(15, 0)", rig.x.pixel(15, 0), 6);
    }

    private static void noSuchY() {
        Rig rig = new Rig().register(7, 6).draw();
        int[] ys = {-1, 8, 9, 11, 12, -8, 256, Integer.MIN_VALUE, Integer.MAX_VALUE};
        for (int y : ys) {
            for (int x = 0; x < 16; x++) {
                Check.due("pixel(" + x + ", " + y + ")", rig.x.pixel(x, y), -1);
            }
        }
        Check.due("pixel(15, 7)", rig.x.pixel(15, 7), 6);
        Check.due("pixel(16, -1)", rig.x.pixel(16, -1), -1);
        Check.due("pixel(-1, 8)", rig.x.pixel(-1, 8), -1);
    }

    /** All of the plane's 16 pixels on each of the 8 lines are different from their neighbours. */
    private static void everyPixel() {
        Rig rig = new Rig().register(1, 64).register(2, 1).register(4, 1).register(5, 15).register(13, 1)
            .vram(4, 0x1234, 0x2341, 0x3412, 0x4123, 0x5678, 0x6785, 0x7856, 0x8567)
            .vram(32, 1, 2, 1, 2, 0, 0, 0, 0, 2, 1, 2, 1).draw();
        String[] a = {"1234", "2341", "3412", "4123"};
        String[] b = {"5678", "6785", "7856", "8567"};
        for (int y = 0; y < 8; y++) {
            String first = y < 4 ? a[y] : b[y - 4];
            String other = y < 4 ? b[y] : a[y - 4];
            rig.dueLine("each pixel", y, first + other + first + other);
        }
    }

    private static void asDrawnLast() {
        Rig rig = new Rig().register(7, 1).draw();
        rig.x.reset();
        Check.due("after reset", rig.x.pixel(3, 3), 1);
        rig.register(7, 2).start().steps(1);
        int old = 0;
        for (int y = 0; y < 8; y++) {
            old += rig.x.pixel(3, y) == 1 ? 1 : 0;
        }
        Check.due("most lines are as they were", old >= 7, true);
        rig.put(Rig.STOP, 0x700).start();
        rig.x.run(800);
        for (int y = 0; y < 8; y++) {
            Check.due("drawn again", rig.x.pixel(3, y), 2);
        }
    }

    private static void notDrawnYet() {
        Rig rig = new Rig().register(7, 9).put(Rig.STOP, 0x700).start();
        rig.x.run(60);
        for (int y = 0; y < 8; y++) {
            rig.dueLine("not drawn", y, "0".repeat(16));
        }
    }

    private static void aNumberNotAColour() {
        Rig rig = new Rig().register(14, 2).control(0, Rig.CRAM).data(0xEEE, 0xEEE).register(7, 1).draw();
        for (int y = 0; y < 8; y++) {
            Check.due("a number", rig.x.pixel(3, y), 1);
        }
        for (int k = 0; k < 16; k++) {
            rig = new Rig().register(7, k).draw();
            Check.due("any of 0 .. 15", rig.x.pixel(0, 0), k);
        }
    }
}
