/** Promises 5 and 11: how a line is drawn of two planes. */
public final class DrawingTest {
    private DrawingTest() {
    }

    public static void main(String[] args) {
        screenOff();
        whenALineIsDrawn();
        turnedNames();
        patternsAndNames();
        scrolling();
        window();
        order();
        Check.end();
    }

    /**
     * Pattern 1 (words 4 .. 7) is 1234 5670 89AB CDEF. Plane A is at word 32, plane B at 64, sprites at 96,
     * HSCROLL at word 16. Pattern 0 (words 0 .. 3) is seen through.
     */
    private static Rig picture() {
        return new Rig().register(1, 64).register(2, 1).register(4, 2).register(5, 3).register(13, 1)
            .vram(4, 0x1234, 0x5670, 0x89AB, 0xCDEF);
    }

    private static void screenOff() {
        for (int bits = 0; bits < 256; bits += 51) {
            Rig rig = picture().vram(32, 1, 1, 1, 1).register(1, bits & 0xAF).register(7, bits).draw();
            for (int y = 0; y < 8; y++) {
                String line = Integer.toHexString(bits & 15).repeat(16);
                rig.dueLine("off", y, line);
            }
        }
        Rig rig = picture().register(7, 0xF6).draw();
        rig.dueLine("nothing but what is behind", 5, "6666666666666666");
    }

    /** A line is drawn as it begins, with what is there then. */
    private static void whenALineIsDrawn() {
        Rig rig = new Rig().register(7, 1).put(Rig.STOP, 0x700).start();
        rig.x.run(124);
        Check.due("line 1 is drawn", rig.x.pixel(0, 1), 1);
        Check.due("line 2 is not", rig.x.pixel(0, 2), 0);
        rig.x.run(4);
        Check.due("line 2 is drawn", rig.x.pixel(15, 2), 1);
        rig.register(7, 2).put(Rig.STOP, 0x700).start();
        rig.x.run(64);
        Check.due("line 2 stays", rig.x.pixel(0, 2), 1);
        Check.due("line 3 is the new one", rig.x.pixel(0, 3), 2);
        // 192 cycles are done; line 11 ends at 768.
        rig.x.run(768 - 192 - 4);
        Check.due("line 0 is not drawn yet", rig.x.pixel(0, 0), 0);
        Check.due("line 7 is", rig.x.pixel(0, 7), 2);
        rig.x.run(4);
        Check.due("line 0 is drawn", rig.x.pixel(0, 0), 2);
        Check.due("line 1 stays", rig.x.pixel(0, 1), 1);
    }

    private static void turnedNames() {
        Rig rig = picture().vram(32, 1, 0x801, 0x1001, 0x1801).draw();
        rig.dueLine("row 0", 0, "12344321cdeffedc");
        rig.dueLine("row 1", 1, "5670076589abba98");
        rig.dueLine("row 2", 2, "89abba9856700765");
        rig.dueLine("row 3", 3, "cdeffedc12344321");
        rig.dueLine("the next names", 4, "0000000000000000");
        rig = picture().vram(64, 1, 0x801, 0x1001, 0x1801).draw();
        rig.dueLine("plane B alike", 0, "12344321cdeffedc");
        rig.dueLine("plane B alike", 3, "cdeffedc12344321");
    }

    private static void patternsAndNames() {
        // Pattern 127 is the last words of VRAM; bits 7 .. 10, 13, 14 of a name count for nothing.
        Rig rig = picture().vram(508, 0x9999, 0x8888, 0x7777, 0x6666).vram(40, 0x67FF, 0x007F).draw();
        rig.dueLine("row 1 of names, row 0 of the pattern", 4, "9999999900000000");
        rig.dueLine("row 1 of names, row 3 of the pattern", 7, "6666666600000000");
        rig.dueLine("row 0 of names", 3, "0000000000000000");
        // Register 2's and 4's low four bits alone; the last 32 words can hold names.
        rig = picture().register(2, 0xFF).register(4, 0x72).vram(480, 1).vram(65, 1).draw();
        rig.dueLine("plane A at word 480, plane B at 64", 0, "1234123400000000");
        rig.dueLine("plane A at word 480, plane B at 64", 2, "89ab89ab00000000");
    }

    private static void scrolling() {
        int[] across = {0, 1, 3, 4, 5, 31, 32, 33, 0xFFFF, 0x8010};
        String row = "1234" + "0".repeat(24) + "4321";
        for (int h : across) {
            Rig rig = picture().vram(32, 1).vram(39, 0x801).vram(64, 1).vram(71, 0x801).vram(16, h, 0).draw();
            Rig other = picture().vram(64, 1).vram(71, 0x801).vram(16, 5, h).draw();
            StringBuilder want = new StringBuilder();
            for (int x = 0; x < 16; x++) {
                want.append(row.charAt(Math.floorMod(x - h, 32)));
            }
            other.dueLine("B scrolled by " + h, 0, want.toString());
            for (int x = 0; x < 16; x++) {
                char a = want.charAt(x);
                want.setCharAt(x, a == '0' ? row.charAt(x) : a);
            }
            rig.dueLine("A scrolled by " + h + ", B not", 0, want.toString());
        }
        int[] down = {1, 3, 4, 8, 13, 15, 16, 17, 0xFFFF};
        for (int v : down) {
            Rig rig = picture().vram(32, 1).vram(56, 0x1001).register(14, 2).control(0, 5).data(v, v + 1).draw();
            Rig other = picture().vram(64, 1).vram(88, 0x1001).register(14, 2).control(0, 5).data(v + 1, v).draw();
            String[] rows = {"1234", "5670", "89ab", "cdef", "0000", "0000", "0000", "0000", "0000", "0000", "0000",
                "0000", "cdef", "89ab", "5670", "1234"};
            for (int y = 0; y < 8; y++) {
                String want = rows[(y + v) % 16] + "0".repeat(12);
                rig.dueLine("A scrolled down by " + v, y, want);
                other.dueLine("B scrolled down by " + v, y, want);
            }
        }
        // Register 13's low five bits alone: word 31 * 16.
        Rig rig = picture().register(13, 0xFF).vram(32, 1).vram(64, 1).vram(496, 4, 8).draw();
        rig.dueLine("HSCROLL at word 496", 0, "0000123412340000");
    }

    private static void window() {
        for (int w = 0; w < 9; w++) {
            Rig rig = picture().register(3, w + 8).vram(32, 1, 1, 1, 1, 1, 1, 1, 1).vram(16, 2, 2)
                .register(14, 2).control(0, 5).data(1, 0).vram(64, 0x7F, 0x7F, 0x7F).vram(508, 0xFFFF).draw();
            int still = Math.min(w % 8, 4);
            String want = "1234".repeat(still) + "7056705670567056".substring(4 * still);
            // 0 is seen through: plane B shows F from 2 to 13.
            StringBuilder line = new StringBuilder(want);
            for (int x = 0; x < 16; x++) {
                if (line.charAt(x) == '0' && x >= 2 && x < 14) {
                    line.setCharAt(x, 'f');
                }
            }
            rig.dueLine("window of " + w, 0, line.toString());
        }
    }

    /** All orders of a high or low A and B, of which each may be seen through. */
    private static void order() {
        for (int high = 0; high < 4; high++) {
            int a = high % 2 * 0x8000;
            int b = high / 2 * 0x8000;
            // Pattern 1: 1 in columns 0, 1; pattern 2: 2 in columns 0, 2.
            Rig rig = new Rig().register(1, 64).register(2, 1).register(4, 2).register(5, 3).register(13, 1)
                .register(7, 9).vram(4, 0x1100).vram(8, 0x2020).vram(32, a + 1).vram(64, b + 2).draw();
            boolean bFirst = high == 2;
            rig.dueLine("high " + high, 0, (bFirst ? "2" : "1") + "129" + "9".repeat(12));
        }
        // A high name of a pixel that is seen through hides nothing.
        Rig rig = new Rig().register(1, 64).register(2, 1).register(4, 2).register(5, 3).register(13, 1)
            .register(7, 9).vram(4, 0x1100).vram(8, 0x2222).vram(32, 0x8001).vram(64, 2).draw();
        rig.dueLine("seen through", 0, "1122999999999999");
    }
}
