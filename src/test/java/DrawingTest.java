/** Promises 5 and 11: how a line is drawn of two planes. */
public final class DrawingTest {
    private DrawingTest() {
    }

    public static void main(String[] args) {
        Check.that("When a line below 8 begins, it is DRAWN", DrawingTest::whenALineIsDrawn);
        Check.that("register 1's bit 6 0: all are register 7 & 15", DrawingTest::screenOff);
        Check.that("else register 7 & 15.", DrawingTest::nothingThere);
        Check.that("A PATTERN is 4 by 4, word 4 p + j of VRAM is its row j, the leftmost pixel in the highest four bits",
            DrawingTest::patterns);
        Check.that("0 is seen through", DrawingTest::seenThrough);
        Check.that("A NAME: bits 0 .. 6 a pattern (the first and the last)", DrawingTest::firstAndLastPattern);
        Check.that("11 turned left to right, 12 upside down", DrawingTest::turnedNames);
        Check.that("A NAME: (its other bits count for nothing)", DrawingTest::otherBitsOfNames);
        Check.that("PLANES A and B: 8 by 4 names at word (register 2 & 15) * 32, or (register 4 & 15) * 32, of VRAM, row by row",
            DrawingTest::whereNamesStand);
        Check.that("8 by 4 names, row by row", DrawingTest::everyName);
        Check.that("(x - HSCROLL) modulo 32", DrawingTest::scrolledAcross);
        Check.that("(y + VSCROLL) modulo 16", DrawingTest::scrolledDown);
        Check.that("HSCROLL of A, B is word (register 13 & 31) * 16 of VRAM, or the next", DrawingTest::whereHscrollStands);
        Check.that("VSCROLL VSRAM's word 0, 1", DrawingTest::whereVscrollStands);
        Check.that("If x / 4 is less than register 3 & 7: plane A is the WINDOW there: not scrolled either way.",
            DrawingTest::window);
        Check.that("plane A is the WINDOW there (plane B is scrolled)", DrawingTest::windowIsOfPlaneA);
        Check.that("The pixel is the first not seen through of: high A, high B, A, B; else register 7 & 15.",
            DrawingTest::order);
        Check.end();
    }

    /**
     * Pattern 1 (words 4 .. 7) is 1234 5670 89AB CDEF. Plane A is at word 32, plane B at 64, sprites at 96,
     * HSCROLL at word 16. Pattern 0 (words 0 .. 3) is seen through.
     */
    private static Rig picture() {
        return new Rig().register(1, 64).register(2, 1).register(4, 2).register(5, 3).register(13, 1)
            .vram(4, 0x1234, 0x5670, 0x89AB, 0xCDEF);
    }

    private static Rig vsram(Rig rig, int... words) {
        return rig.register(14, 2).control(0, Rig.VSRAM).data(words);
    }

    /** A line is drawn as it begins, with what is there then. */
    private static void whenALineIsDrawn() {
        Rig rig = new Rig().register(7, 1).put(Rig.STOP, 0x700).start();
        rig.x.run(124);
        Check.due("line 1 is drawn", rig.x.pixel(0, 1), 1);
        Check.due("line 2 is not", rig.x.pixel(0, 2), 0);
        rig.x.run(4);
        Check.due("line 2 is drawn", rig.x.pixel(15, 2), 1);
        rig.register(7, 2).put(Rig.STOP, 0x700).start();
        rig.x.run(64);
        Check.due("line 2 stays", rig.x.pixel(0, 2), 1);
        Check.due("line 3 is the new one", rig.x.pixel(0, 3), 2);
        // 192 cycles are done; line 11 ends at 768.
        rig.x.run(768 - 192 - 4);
        Check.due("line 0 is not drawn yet", rig.x.pixel(0, 0), 0);
        Check.due("line 7 is", rig.x.pixel(0, 7), 2);
        rig.x.run(4);
        Check.due("line 0 is drawn", rig.x.pixel(0, 0), 2);
        Check.due("line 1 stays", rig.x.pixel(0, 1), 1);
    }

    private static void screenOff() {
        for (int bits = 0; bits < 256; bits += 51) {
            Rig rig = picture().vram(32, 1, 1, 1, 1).register(1, bits & 0xAF).register(7, bits).draw();
            for (int y = 0; y < 8; y++) {
                rig.dueLine("off", y, Integer.toHexString(bits & 15).repeat(16));
            }
        }
        // The bit counts as each line begins.
        Rig rig = picture().vram(32, 1).register(7, 5).draw();
        rig.dueLine("on", 0, "1234555555555555");
        rig.register(1, 0xBF).draw();
        rig.dueLine("off", 0, "5555555555555555");
    }

    private static void nothingThere() {
        int[] values = {0, 5, 15, 16, 0xF6, 0xFF};
        for (int value : values) {
            Rig rig = picture().register(7, value).draw();
            for (int y = 0; y < 8; y++) {
                rig.dueLine("register 7 = " + value, y, Integer.toHexString(value & 15).repeat(16));
            }
        }
    }

    private static void patterns() {
        Rig rig = picture().vram(8, 0xFEDC, 0xBA98, 0x7654, 0x3210).vram(32, 1, 2).draw();
        rig.dueLine("row 0", 0, "1234fedc00000000");
        rig.dueLine("row 1", 1, "5670ba9800000000");
        rig.dueLine("row 2", 2, "89ab765400000000");
        rig.dueLine("row 3", 3, "cdef321000000000");
    }

    private static void seenThrough() {
        Rig rig = picture().register(7, 9).vram(4, 0x1010, 0x0101, 0, 0).vram(8, 0x2200, 0x2200).vram(32, 1).vram(64, 2).draw();
        rig.dueLine("row 0", 0, "1219999999999999");
        rig.dueLine("row 1", 1, "2191999999999999");
        rig.dueLine("row 2", 2, "9999999999999999");
    }

    private static void firstAndLastPattern() {
        // Word 0 .. 3 is pattern 0, all names are 0.
        Rig rig = new Rig().register(1, 64).register(2, 1).register(4, 1).register(5, 3).register(13, 1)
            .vram(0, 0x1234, 0x5678).draw();
        rig.dueLine("pattern 0", 0, "1234123412341234");
        rig.dueLine("pattern 0", 1, "5678567856785678");
        rig.dueLine("pattern 0", 4, "1234123412341234");
        // Pattern 127 is the last words of VRAM.
        rig = picture().vram(508, 0x9999, 0x8888, 0x7777, 0x6666).vram(40, 127).draw();
        rig.dueLine("row 0", 4, "9999000000000000");
        rig.dueLine("row 3", 7, "6666000000000000");
        rig.dueLine("above", 3, "0000000000000000");
    }

    private static void turnedNames() {
        for (int plane = 1; plane < 3; plane++) {
            Rig rig = picture().vram(32 * plane, 1, 0x801, 0x1001, 0x1801).draw();
            rig.dueLine("row 0", 0, "12344321cdeffedc");
            rig.dueLine("row 1", 1, "5670076589abba98");
            rig.dueLine("row 2", 2, "89abba9856700765");
            rig.dueLine("row 3", 3, "cdeffedc12344321");
            rig.dueLine("the next names", 4, "0000000000000000");
        }
    }

    private static void otherBitsOfNames() {
        // Bits 7 .. 10, 13, 14.
        Rig rig = picture().vram(32, 0x6781, 1, 0x0081, 0x4001).draw();
        rig.dueLine("row 0", 0, "1234123412341234");
        rig.dueLine("row 3", 3, "cdefcdefcdefcdef");
    }

    private static void whereNamesStand() {
        // The low four bits alone; the last 32 words can hold names.
        Rig rig = picture().register(2, 0xFF).register(4, 0x72).vram(480, 1).vram(65, 1).draw();
        rig.dueLine("plane A at word 480, plane B at 64", 0, "1234123400000000");
        rig.dueLine("plane A at word 480, plane B at 64", 2, "89ab89ab00000000");
        rig = picture().register(2, 0xF2).register(4, 0xEF).vram(480, 1).vram(65, 1).draw();
        rig.dueLine("plane B at word 480, plane A at 64", 0, "1234123400000000");
        for (int k = 2; k < 16; k++) {
            rig = picture().register(2, k).register(4, 1).register(5, 1).vram(32 * k, 1).draw();
            rig.dueLine("plane A at word " + 32 * k, 0, "1234000000000000");
        }
    }

    /** One name of 32 is pattern 1; the plane is scrolled so that it is seen at the upper left. */
    private static void everyName() {
        for (int plane = 0; plane < 2; plane++) {
            for (int k = 0; k < 32; k++) {
                int across = 32 - k % 8 * 4;
                int down = k / 8 * 4;
                Rig rig = vsram(picture().vram(32 + 32 * plane + k, 1).vram(16 + plane, across),
                    plane == 0 ? down : 0, plane == 1 ? down : 0).draw();
                rig.dueLine("name " + k, 0, "1234000000000000");
                rig.dueLine("name " + k, 3, "cdef000000000000");
                rig.dueLine("name " + k, 4, "0000000000000000");
            }
        }
    }

    private static void scrolledAcross() {
        int[] across = {0, 1, 3, 4, 5, 15, 16, 31, 32, 33, 0x7FFF, 0x8000, 0x8010, 0xFFFF};
        String row = "1234" + "0".repeat(24) + "4321";
        for (int h : across) {
            Rig rig = picture().vram(32, 1).vram(39, 0x801).vram(16, h, 0).draw();
            Rig other = picture().vram(64, 1).vram(71, 0x801).vram(16, 0, h).draw();
            StringBuilder want = new StringBuilder();
            for (int x = 0; x < 16; x++) {
                want.append(row.charAt(Math.floorMod(x - h, 32)));
            }
            rig.dueLine("A scrolled by " + h, 0, want.toString());
            other.dueLine("B scrolled by " + h, 0, want.toString());
        }
    }

    private static void scrolledDown() {
        int[] down = {0, 1, 3, 4, 8, 12, 13, 15, 16, 17, 0x7FFF, 0x8000, 0xFFFF};
        String[] rows = {"1234", "5670", "89ab", "cdef", "0000", "0000", "0000", "0000", "0000", "0000", "0000",
            "0000", "cdef", "89ab", "5670", "1234"};
        for (int v : down) {
            Rig rig = vsram(picture().vram(32, 1).vram(56, 0x1001), v, v + 1).draw();
            Rig other = vsram(picture().vram(64, 1).vram(88, 0x1001), v + 1, v).draw();
            for (int y = 0; y < 8; y++) {
                String want = rows[(y + v) % 16] + "0".repeat(12);
                rig.dueLine("A scrolled down by " + v, y, want);
                other.dueLine("B scrolled down by " + v, y, want);
            }
        }
    }

    private static void whereHscrollStands() {
        // The low five bits alone: word 31 * 16.
        Rig rig = picture().register(13, 0xFF).vram(32, 1).vram(64, 1).vram(496, 4, 8).draw();
        rig.dueLine("words 496 and 497", 0, "0000123412340000");
        rig = picture().register(13, 0xE1).vram(32, 1).vram(64, 1).vram(16, 8, 4).draw();
        rig.dueLine("words 16 and 17", 0, "0000123412340000");
        // Words 0 and 1 are rows of pattern 0, too, but line 2 shows its row 2.
        rig = picture().register(13, 0).vram(32, 1).vram(64, 1).vram(0, 4, 8).draw();
        rig.dueLine("words 0 and 1", 2, "000089ab89ab0000");
    }

    private static void whereVscrollStands() {
        Rig rig = vsram(picture().vram(32, 1).vram(65, 1), 1, 2).draw();
        rig.dueLine("A by 1, B by 2", 0, "567089ab00000000");
        rig.dueLine("A by 1, B by 2", 1, "89abcdef00000000");
        rig.dueLine("A by 1, B by 2", 2, "cdef000000000000");
    }

    private static void window() {
        for (int w = 0; w < 17; w++) {
            // Scrolled by 2 across and by 1 down: row 1 of the pattern from its third column on.
            Rig rig = vsram(picture().register(3, w).vram(32, 1, 1, 1, 1, 1, 1, 1, 1).vram(16, 2), 1).draw();
            int still = Math.min(w % 8, 4);
            rig.dueLine("window of " + w, 0, "1234".repeat(still) + "7056705670567056".substring(4 * still));
        }
        Rig rig = vsram(picture().register(3, 0xF8).vram(32, 1).vram(16, 2), 1).draw();
        rig.dueLine("the low three bits alone", 0, "0056700000000000");
    }

    private static void windowIsOfPlaneA() {
        Rig rig = vsram(picture().register(3, 2).vram(64, 1, 1, 1, 1).vram(16, 0, 4), 0, 1).draw();
        rig.dueLine("plane B is scrolled there", 0, "0000567056705670");
    }

    /** All orders of a high or low A and B, of which each may be seen through. */
    private static void order() {
        for (int high = 0; high < 4; high++) {
            int a = high % 2 * 0x8000;
            int b = high / 2 * 0x8000;
            // Pattern 1: 1 in columns 0, 1; pattern 2: 2 in columns 0, 2.
            Rig rig = new Rig().register(1, 64).register(2, 1).register(4, 2).register(5, 3).register(13, 1)
                .register(7, 9).vram(4, 0x1100).vram(8, 0x2020).vram(32, a + 1).vram(64, b + 2).draw();
            boolean bFirst = high == 2;
            rig.dueLine("high " + high, 0, (bFirst ? "2" : "1") + "129" + "9".repeat(12));
        }
        // A high name of a pixel that is seen through hides nothing.
        Rig rig = new Rig().register(1, 64).register(2, 1).register(4, 2).register(5, 3).register(13, 1)
            .register(7, 9).vram(4, 0x1100).vram(8, 0x2222).vram(32, 0x8001).vram(64, 2).draw();
        rig.dueLine("seen through", 0, "1122999999999999");
    }
}
