/** Promises 5 and 11: sprites, their limits, collisions and masks. */
public final class SpritesTest {
    private static final int COLLIDED = 32;
    private static final int TOO_MANY = 64;

    private SpritesTest() {
    }

    public static void main(String[] args) {
        Check.that("Y + 16; X + 16; each 4 by 4", SpritesTest::everyPlace);
        Check.that("(its low 6 bits) (Y + 16)", SpritesTest::lowBitsOfY);
        Check.that("X + 16 (low 6 bits)", SpritesTest::lowBitsOfX);
        Check.that("link (low 3 bits)", SpritesTest::lowBitsOfLinks);
        Check.that("a name (turned, its other bits)", SpritesTest::names);
        Check.that("SPRITES 0 .. 7 of four words at word (register 5 & 15) * 32", SpritesTest::whereSpritesStand);
        Check.that("From sprite 0 on by links", SpritesTest::byLinks);
        Check.that("until link 0", SpritesTest::linkZeroEnds);
        Check.that("at most 8", SpritesTest::atMostEight);
        Check.that("From sprite 0 on by links, at most 8 (a ring of links)", SpritesTest::rings);
        Check.that("those on the line are taken", SpritesTest::onTheLine);
        Check.that("at most 3", SpritesTest::atMostThree);
        Check.that("(a fourth: too many, and no more)", SpritesTest::fourth);
        Check.that("(a fourth, a MASK, too: too many, and no more)", SpritesTest::fourthIsAMask);
        Check.that("those on the line are taken (beside the screen, too)", SpritesTest::besideTheScreen);
        Check.that("One with X + 16 = 0 that is on the line and is not the first taken MASKS all behind it: none of these"
            + " is taken, nor too many.", SpritesTest::masks);
        Check.that("One with X + 16 = 0 that is on the line", SpritesTest::maskOffTheLine);
        Check.that("and is not the first taken", SpritesTest::firstIsNoMask);
        Check.that("One with X + 16 = 0 (and not 1, nor 64)", SpritesTest::onlyZeroMasks);
        Check.that("The first pixel of a sprite that is not seen through stays", SpritesTest::firstStays);
        Check.that("another one there is a COLLISION", SpritesTest::collisions);
        Check.that("another one there is a COLLISION (of 16 pixels)", SpritesTest::noCollisionBesideTheScreen);
        Check.that("The pixel is the first not seen through of: high sprite, high A, high B, sprite, A, B; else register"
            + " 7 & 15.", SpritesTest::orderWithPlanes);
        Check.that("bit 5 sprites collided, bit 6 there were too many on a line, both since it was read last",
            SpritesTest::statusBits);
        Check.that("bit 5, bit 6 (each by itself)", SpritesTest::statusBitsApart);
        Check.that("and sprites aren't looked at", SpritesTest::notLookedAtWhenOff);
        Check.end();
    }

    /** Plane names at words 32 and 64 are all pattern 0, seen through; sprites are at word 96; pattern 1 as told. */
    private static Rig picture() {
        return new Rig().register(1, 64).register(2, 1).register(4, 2).register(5, 3).register(13, 1)
            .vram(4, 0x1234, 0x5670, 0x89AB, 0xCDEF).vram(8, 0x2222, 0x2222, 0x2222, 0x2222);
    }

    private static int[] sprite(int x, int y, int name, int link) {
        return new int[] {y + 16, link, name, x + 16};
    }

    private static Rig sprites(Rig rig, int[]... all) {
        rig.register(14, 2).control(2 * 96, Rig.VRAM);
        for (int[] one : all) {
            rig.data(one);
        }
        return rig;
    }

    /** STATUS's two bits about sprites, read once. */
    private static void dueStatus(String what, Rig rig, int want) {
        rig.read(0, Rig.CONTROL).start().steps(1);
        Check.due(what + ": STATUS", rig.x.register(0) & 96, want);
    }

    private static void everyPlace() {
        String[] rows = {"1234", "5670", "89ab", "cdef"};
        for (int x = -6; x < 20; x += x == 2 ? 8 : 1) {
            for (int y = -5; y < 10; y += y == -1 ? 4 : 1) {
                Rig rig = sprites(picture(), sprite(x, y, 1, 0)).draw();
                for (int line = 0; line < 8; line++) {
                    int row = line - y;
                    StringBuilder want = new StringBuilder("0".repeat(16));
                    for (int k = 0; k < 4 && row >= 0 && row < 4; k++) {
                        if (x + k >= 0 && x + k < 16) {
                            want.setCharAt(x + k, rows[row].charAt(k));
                        }
                    }
                    rig.dueLine("sprite at " + x + ", " + y, line, want.toString());
                }
                dueStatus("one sprite", rig, 0);
            }
        }
    }

    private static void lowBitsOfY() {
        // 64 + 18, 0xFFC0 + 18: line 2.
        int[] ys = {18, 64 + 18, 0xFFC0 + 18};
        for (int y : ys) {
            Rig rig = picture().vram(96, y, 0, 1, 16).draw();
            rig.dueLine("above", 1, "0000000000000000");
            rig.dueLine("Y + 16 = " + y, 2, "1234000000000000");
            rig.dueLine("Y + 16 = " + y, 5, "cdef000000000000");
            rig.dueLine("below", 6, "0000000000000000");
        }
        int[] off = {0, 12, 24, 48, 63, 64};
        for (int y : off) {
            Rig rig = picture().vram(96, y, 0, 1, 16).draw();
            for (int line = 0; line < 8; line++) {
                rig.dueLine("off the screen: Y + 16 = " + y, line, "0000000000000000");
            }
        }
    }

    private static void lowBitsOfX() {
        int[] xs = {21, 64 + 21, 0xABC0 + 21};
        for (int x : xs) {
            Rig rig = picture().vram(96, 16, 0, 1, x).draw();
            rig.dueLine("X + 16 = " + x, 0, "0000012340000000");
        }
        int[] off = {0, 12, 32, 48, 60, 63, 64};
        for (int x : off) {
            Rig rig = picture().vram(96, 16, 0, 1, x).draw();
            rig.dueLine("off the screen: X + 16 = " + x, 0, "0000000000000000");
        }
    }

    private static void lowBitsOfLinks() {
        int[] links = {7, 15, 0xFFFF};
        for (int link : links) {
            Rig rig = picture().vram(96, 16, link, 1, 16).vram(124, 16, 0, 1, 21).draw();
            rig.dueLine("link " + link, 0, "1234012340000000");
        }
        Rig rig = picture().vram(96, 16, 8, 1, 16).vram(100, 16, 0, 1, 21).vram(128, 16, 0, 1, 26).draw();
        rig.dueLine("link 8 is link 0", 0, "1234000000000000");
    }

    private static void names() {
        Rig rig = sprites(picture(), sprite(0, 1, 0x801, 1), sprite(4, 1, 0x1001, 2), sprite(8, 1, 0x1801, 0)).draw();
        rig.dueLine("above", 0, "0000000000000000");
        rig.dueLine("row 0", 1, "4321cdeffedc0000");
        rig.dueLine("row 1", 2, "076589abba980000");
        rig.dueLine("row 3", 4, "fedc123443210000");
        rig.dueLine("below", 5, "0000000000000000");
        rig = sprites(picture(), sprite(0, 0, 0x6781, 1), sprite(4, 0, 127, 0)).vram(508, 0x9999).draw();
        rig.dueLine("other bits, and the last pattern", 0, "1234999900000000");
    }

    private static void whereSpritesStand() {
        for (int k = 2; k < 16; k++) {
            Rig rig = picture().register(2, 1).register(4, 1).register(5, k).vram(32 * k, 16, 0, 1, 16).draw();
            rig.dueLine("at word " + 32 * k, 0, "1234000000000000");
        }
        Rig rig = picture().register(5, 0xF3).vram(96, 18, 0, 1, 16).draw();
        rig.dueLine("the low four bits of register 5 alone", 2, "1234000000000000");
        rig = picture().register(5, 15).vram(480, 16, 7, 1, 16).vram(508, 19, 0, 1, 24).draw();
        rig.dueLine("sprite 0 at word 480", 0, "1234000000000000");
        rig.dueLine("sprite 7 is the last words of VRAM", 3, "cdef000012340000");
    }

    private static void byLinks() {
        // 0 -> 5 -> 2 -> end; sprite 1 is in no chain.
        Rig rig = picture().vram(96, 16, 5, 1, 16).vram(100, 16, 0, 1, 28).vram(104, 16, 0, 1, 20)
            .vram(116, 16, 2, 1, 24).draw();
        rig.dueLine("0, 5, 2", 0, "1234123412340000");
        // The order is that of the links: 2 comes before 1, so it stays where they meet.
        rig = sprites(picture(), sprite(0, 0, 1, 2), sprite(8, 0, 1, 0), sprite(8, 0, 2, 1)).draw();
        rig.dueLine("0, 2, 1", 0, "1234000022220000");
    }

    private static void linkZeroEnds() {
        Rig rig = picture().vram(96, 16, 0, 1, 16).vram(100, 16, 0, 1, 28).draw();
        rig.dueLine("sprite 0 alone", 0, "1234000000000000");
        // One that is off the line ends the chain, too; and sprite 0 is not taken again.
        rig = sprites(picture(), sprite(0, 0, 1, 1), sprite(0, 20, 1, 0), sprite(8, 0, 1, 0)).draw();
        rig.dueLine("sprites 0 and 1", 0, "1234000000000000");
        dueStatus("sprite 0 once", rig, 0);
    }

    private static void atMostEight() {
        // All eight, three on each line.
        Rig rig = sprites(picture(), sprite(0, 0, 1, 1), sprite(0, 4, 1, 2), sprite(4, 0, 1, 3), sprite(4, 4, 1, 4),
            sprite(8, 0, 1, 5), sprite(8, 4, 1, 6), sprite(0, 20, 1, 7), sprite(0, 30, 1, 0)).draw();
        rig.dueLine("three", 0, "1234123412340000");
        rig.dueLine("three", 7, "cdefcdefcdef0000");
        dueStatus("three are not too many", rig, 0);
        // The eighth counts: sprite 7.
        rig = sprites(picture(), sprite(0, 20, 1, 1), sprite(0, 20, 1, 2), sprite(0, 20, 1, 3), sprite(0, 20, 1, 4),
            sprite(0, 20, 1, 5), sprite(0, 20, 1, 6), sprite(0, 20, 1, 7), sprite(8, 0, 1, 0)).draw();
        rig.dueLine("the eighth", 0, "0000000012340000");
        // A ring of seven: 0, 1, 2, 3, 4, 5, 6, then 1 as the eighth and last, which meets itself.
        rig = sprites(picture(), sprite(0, 20, 1, 1), sprite(0, 0, 1, 2), sprite(0, 20, 1, 3), sprite(0, 20, 1, 4),
            sprite(0, 20, 1, 5), sprite(0, 20, 1, 6), sprite(0, 20, 1, 1)).draw();
        dueStatus("the eighth is sprite 1 again", rig, COLLIDED);
        // 0, 1, 2, 3, 4, 5, 6, 7, then 1 would be the ninth.
        rig = sprites(picture(), sprite(0, 20, 1, 1), sprite(0, 0, 1, 2), sprite(0, 20, 1, 3), sprite(0, 20, 1, 4),
            sprite(0, 20, 1, 5), sprite(0, 20, 1, 6), sprite(0, 20, 1, 7), sprite(0, 20, 1, 1)).draw();
        dueStatus("no ninth", rig, 0);
    }

    private static void rings() {
        // Sprite 1 links to itself, off the line: the chain ends after eight.
        Rig rig = sprites(picture(), sprite(0, 0, 1, 1), sprite(0, 20, 1, 1)).draw();
        rig.dueLine("a ring off the line", 0, "1234000000000000");
        dueStatus("a ring off the line", rig, 0);
        // On the line it is taken again and again.
        rig = sprites(picture(), sprite(0, 0, 1, 1), sprite(8, 0, 1, 1)).draw();
        rig.dueLine("a ring on the line", 0, "1234000012340000");
        dueStatus("a ring on the line", rig, COLLIDED + TOO_MANY);
    }

    private static void onTheLine() {
        // Each line of a sprite takes it: four lines, not the one before nor the one behind.
        Rig rig = sprites(picture(), sprite(0, 0, 1, 1), sprite(4, 1, 1, 2), sprite(8, 4, 1, 0)).draw();
        rig.dueLine("line 0", 0, "1234000000000000");
        rig.dueLine("line 1", 1, "5670123400000000");
        rig.dueLine("line 3", 3, "cdef89ab00000000");
        rig.dueLine("line 4", 4, "0000cdef12340000");
        rig.dueLine("line 5", 5, "0000000056700000");
        // Y = -3 is on line 0 with its last row, Y = -4 is not; Y = 7 is on line 7 with its first, Y = 8 is not.
        rig = sprites(picture(), sprite(0, -3, 1, 1), sprite(4, -4, 1, 2), sprite(8, 7, 1, 3), sprite(12, 8, 1, 0)).draw();
        rig.dueLine("line 0", 0, "cdef000000000000");
        rig.dueLine("line 7", 7, "0000000012340000");
    }

    private static void firstStays() {
        // Pattern 1's row 1 has a 0 at its end: the one behind is seen there.
        Rig rig = sprites(picture(), sprite(2, 0, 1, 1), sprite(4, 0, 2, 0)).draw();
        rig.dueLine("the first stays", 0, "0012342200000000");
        rig.dueLine("seen through", 1, "0056722200000000");
        // Even if the other is high.
        rig = sprites(picture(), sprite(2, 0, 1, 1), sprite(4, 0, 0x8002, 0)).draw();
        rig.dueLine("a high one behind", 0, "0012342200000000");
    }

    private static void collisions() {
        Rig rig = sprites(picture(), sprite(2, 0, 1, 1), sprite(5, 0, 2, 0)).draw();
        dueStatus("one pixel", rig, COLLIDED);
        rig = sprites(picture(), sprite(2, 0, 1, 1), sprite(6, 0, 2, 0)).draw();
        dueStatus("side by side", rig, 0);
        // Row 1's last pixel is seen through, on the one or the other.
        rig = sprites(picture(), sprite(2, -1, 1, 1), sprite(5, 0, 2, 0)).draw();
        dueStatus("rows 1 .. 3 meet", rig, COLLIDED);
        rig = picture().vram(4, 0x1110, 0x1110, 0x1110, 0x1110);
        sprites(rig, sprite(2, 0, 1, 1), sprite(5, 0, 2, 0)).draw();
        dueStatus("the first is seen through", rig, 0);
        rig = picture().vram(4, 0x0111, 0x0111, 0x0111, 0x0111);
        sprites(rig, sprite(5, 0, 2, 1), sprite(8, 0, 1, 0)).draw();
        dueStatus("the second is seen through", rig, 0);
    }

    private static void noCollisionBesideTheScreen() {
        Rig rig = sprites(picture(), sprite(-4, 0, 2, 1), sprite(-4, 0, 2, 0)).draw();
        dueStatus("left of the screen", rig, 0);
        rig = sprites(picture(), sprite(16, 0, 2, 1), sprite(16, 0, 2, 0)).draw();
        dueStatus("right of the screen", rig, 0);
        rig = sprites(picture(), sprite(0, 8, 2, 1), sprite(0, 8, 2, 0)).draw();
        dueStatus("below the screen", rig, 0);
        rig = sprites(picture(), sprite(15, 0, 2, 1), sprite(15, 0, 2, 0)).draw();
        dueStatus("the last pixel", rig, COLLIDED);
        rig = sprites(picture(), sprite(-3, 0, 2, 1), sprite(-3, 0, 2, 0)).draw();
        dueStatus("the first pixel", rig, COLLIDED);
    }

    private static void atMostThree() {
        Rig rig = sprites(picture(), sprite(0, 0, 1, 1), sprite(4, 0, 1, 2), sprite(8, 0, 1, 3), sprite(12, 4, 1, 0)).draw();
        rig.dueLine("three", 0, "1234123412340000");
        rig.dueLine("three", 3, "cdefcdefcdef0000");
        rig.dueLine("one", 4, "0000000000001234");
        dueStatus("three are not too many", rig, 0);
    }

    private static void fourth() {
        Rig rig = sprites(picture(), sprite(0, 0, 1, 1), sprite(4, 0, 1, 2), sprite(8, 0, 1, 3), sprite(12, 3, 1, 0))
            .draw();
        rig.dueLine("three", 0, "1234123412340000");
        rig.dueLine("the fourth is not taken", 3, "cdefcdefcdef0000");
        rig.dueLine("alone", 4, "0000000000005670");
        dueStatus("four on line 3", rig, TOO_MANY);
        // No more: a fifth is not taken either, nor does it collide.
        rig = sprites(picture(), sprite(0, 0, 1, 1), sprite(4, 0, 1, 2), sprite(8, 0, 1, 3), sprite(0, 0, 1, 4),
            sprite(12, 0, 1, 0)).draw();
        rig.dueLine("no fifth", 0, "1234123412340000");
        dueStatus("no collision of the fourth", rig, TOO_MANY);
    }

    private static void fourthIsAMask() {
        Rig rig = sprites(picture(), sprite(0, 0, 1, 1), sprite(4, 0, 1, 2), sprite(8, 0, 1, 3), sprite(-16, 0, 1, 4),
            sprite(12, 0, 1, 0)).draw();
        rig.dueLine("three", 0, "1234123412340000");
        dueStatus("a mask as the fourth", rig, TOO_MANY);
    }

    private static void besideTheScreen() {
        Rig rig = sprites(picture(), sprite(20, 0, 1, 1), sprite(30, 0, 1, 2), sprite(8, 0, 1, 3), sprite(0, 0, 1, 0)).draw();
        rig.dueLine("right of the screen they count", 0, "0000000012340000");
        dueStatus("four", rig, TOO_MANY);
        rig = sprites(picture(), sprite(-15, 0, 1, 1), sprite(-4, 0, 1, 2), sprite(8, 0, 1, 3), sprite(0, 0, 1, 0)).draw();
        rig.dueLine("left of the screen they count", 0, "0000000012340000");
        dueStatus("four", rig, TOO_MANY);
        // Those that are seen through count, too.
        rig = sprites(picture(), sprite(0, 0, 0, 1), sprite(0, 0, 0, 2), sprite(0, 0, 0, 3), sprite(0, 0, 1, 0)).draw();
        rig.dueLine("seen through they count", 0, "0000000000000000");
        dueStatus("four, without a collision", rig, TOO_MANY);
    }

    private static void masks() {
        Rig rig = sprites(picture(), sprite(0, 0, 1, 1), sprite(-16, 0, 1, 2), sprite(4, 0, 1, 3), sprite(8, 0, 1, 4),
            sprite(12, 0, 1, 0)).draw();
        for (int y = 0; y < 4; y++) {
            String[] rows = {"1234", "5670", "89ab", "cdef"};
            rig.dueLine("none behind the second", y, rows[y] + "0".repeat(12));
        }
        dueStatus("five are not too many", rig, 0);
        // As the third it masks the fourth.
        rig = sprites(picture(), sprite(0, 0, 1, 1), sprite(4, 0, 1, 2), sprite(-16, 0, 1, 3), sprite(8, 0, 1, 4),
            sprite(12, 0, 1, 0)).draw();
        rig.dueLine("none behind the third", 0, "1234123400000000");
        dueStatus("five are not too many", rig, 0);
        // Those behind it don't collide, either.
        rig = sprites(picture(), sprite(0, 0, 1, 1), sprite(-16, 0, 1, 2), sprite(0, 0, 1, 0)).draw();
        dueStatus("no collision", rig, 0);
    }

    private static void maskOffTheLine() {
        Rig rig = sprites(picture(), sprite(0, 0, 1, 1), sprite(-16, 2, 1, 2), sprite(4, 0, 1, 3), sprite(8, 0, 1, 4),
            sprite(12, 2, 1, 0)).draw();
        rig.dueLine("not on the line: three", 1, "5670567056700000");
        rig.dueLine("on the line: one", 2, "89ab000000000000");
        rig.dueLine("on the line: one", 3, "cdef000000000000");
        rig.dueLine("the first taken masks nothing", 5, "000000000000cdef");
        dueStatus("masked ones are not too many", rig, 0);
    }

    private static void firstIsNoMask() {
        Rig rig = sprites(picture(), sprite(-16, 0, 1, 1), sprite(0, 0, 1, 2), sprite(4, 0, 1, 0)).draw();
        rig.dueLine("the first masks nothing", 0, "1234123400000000");
        dueStatus("three", rig, 0);
        rig = sprites(picture(), sprite(-16, 0, 1, 1), sprite(0, 0, 1, 2), sprite(4, 0, 1, 3), sprite(8, 0, 1, 0)).draw();
        rig.dueLine("but it is taken", 0, "1234123400000000");
        dueStatus("so four are too many", rig, TOO_MANY);
        // Two of them: the second one masks.
        rig = sprites(picture(), sprite(-16, 0, 1, 1), sprite(-16, 0, 1, 2), sprite(8, 0, 1, 0)).draw();
        rig.dueLine("the second masks", 0, "0000000000000000");
        // The first of the chain may be off the line: then the next is the first taken.
        rig = sprites(picture(), sprite(0, 20, 1, 1), sprite(-16, 0, 1, 2), sprite(8, 0, 1, 0)).draw();
        rig.dueLine("the first taken", 0, "0000000012340000");
    }

    private static void onlyZeroMasks() {
        int[][] cases = {{0, 1}, {64, 1}, {0xFFC0, 1}, {1, 0}, {63, 0}, {65, 0}};
        for (int[] one : cases) {
            Rig rig = sprites(picture(), sprite(0, 0, 1, 1), new int[] {16, 2, 1, one[0]}, sprite(8, 0, 1, 0)).draw();
            rig.dueLine("X + 16 = " + one[0], 0, one[1] == 1 ? "1234000000000000" : "1234000012340000");
        }
    }

    /** All eight orders of high or low sprite (1), A (2), B (3), where each may be seen through. */
    private static void orderWithPlanes() {
        for (int high = 0; high < 8; high++) {
            for (int there = 0; there < 8; there++) {
                int s = there % 2;
                int a = there / 2 % 2;
                int b = there / 4;
                Rig rig = new Rig().register(1, 64).register(2, 1).register(4, 2).register(5, 3).register(13, 1)
                    .register(7, 9).vram(4, 0x1111).vram(8, 0x2222).vram(12, 0x3333)
                    .vram(32, high / 2 % 2 * 0x8000 + 2 * a).vram(64, high / 4 * 0x8000 + 3 * b);
                sprites(rig, sprite(0, 0, high % 2 * 0x8000 + s, 0)).draw();
                int want = 9;
                int[] layers = {s == 1 ? 1 : 0, a == 1 ? 2 : 0, b == 1 ? 3 : 0};
                for (int k = 5; k >= 0; k--) {
                    boolean isHigh = (high >> k % 3 & 1) == 1;
                    if (layers[k % 3] != 0 && (k >= 3 || isHigh)) {
                        want = layers[k % 3];
                    }
                }
                String digit = Integer.toString(want);
                rig.dueLine("high " + high + ", there " + there, 0, digit.repeat(4) + "9".repeat(12));
            }
        }
    }

    private static void statusBits() {
        Rig rig = sprites(picture(), sprite(0, 0, 1, 1), sprite(0, 0, 1, 2), sprite(8, 0, 1, 3), sprite(12, 0, 1, 0))
            .draw();
        Check.due("memory(1028)", rig.x.memory(1028), 0);
        rig.register(1, 0).read(0, Rig.CONTROL).read(1, Rig.CONTROL).start().steps(3);
        rig.dueRegister("both", 0, rig.x.register(0) & 4 | COLLIDED | TOO_MANY);
        rig.dueRegister("read: gone", 1, rig.x.register(1) & 4);
        // They come again with the next picture.
        rig.register(1, 64).draw();
        dueStatus("again", rig, COLLIDED + TOO_MANY);
    }

    private static void statusBitsApart() {
        Rig rig = sprites(picture(), sprite(0, 0, 1, 1), sprite(0, 0, 1, 0)).draw();
        dueStatus("collided alone", rig, COLLIDED);
        rig = sprites(picture(), sprite(0, 0, 1, 1), sprite(4, 0, 1, 2), sprite(8, 0, 1, 3), sprite(12, 0, 1, 0)).draw();
        dueStatus("too many alone", rig, TOO_MANY);
        // They stay though later lines have neither.
        rig = sprites(picture(), sprite(0, -3, 1, 1), sprite(0, -3, 1, 0)).draw();
        dueStatus("line 0 alone", rig, COLLIDED);
    }

    private static void notLookedAtWhenOff() {
        Rig rig = sprites(picture().register(1, 0), sprite(0, 0, 1, 1), sprite(0, 0, 1, 2), sprite(8, 0, 1, 3),
            sprite(12, 0, 1, 0)).draw();
        rig.dueLine("off", 0, "0000000000000000");
        dueStatus("off", rig, 0);
    }
}
