/** Promises 5 and 11: sprites, their limits, collisions and masks. */
public final class SpritesTest {
    private static final int COLLIDED = 32;
    private static final int TOO_MANY = 64;

    private SpritesTest() {
    }

    public static void main(String[] args) {
        onePlace();
        turned();
        fields();
        links();
        linkRings();
        firstStays();
        collisions();
        tooMany();
        masks();
        orderWithPlanes();
        statusBits();
        notLookedAtWhenOff();
        Check.end();
    }

    /** Plane names at words 32 and 64 are all pattern 0, seen through; sprites are at word 96; pattern 1 as told. */
    private static Rig picture() {
        return new Rig().register(1, 64).register(2, 1).register(4, 2).register(5, 3).register(13, 1)
            .vram(4, 0x1234, 0x5670, 0x89AB, 0xCDEF).vram(8, 0x2222, 0x2222, 0x2222, 0x2222);
    }

    private static int[] sprite(int x, int y, int name, int link) {
        return new int[] {y + 16, link, name, x + 16};
    }

    private static Rig sprites(Rig rig, int[]... all) {
        rig.register(14, 2).control(2 * 96, Rig.VRAM);
        for (int[] one : all) {
            rig.data(one);
        }
        return rig;
    }

    /** STATUS's two bits about sprites, read once. */
    private static void dueStatus(String what, Rig rig, int want) {
        rig.read(0, Rig.CONTROL).start().steps(1);
        Check.due(what + ": STATUS", rig.x.register(0) & 96, want);
    }

    private static void onePlace() {
        String[] rows = {"1234", "5670", "89ab", "cdef"};
        for (int x = -6; x < 20; x += x == 2 ? 8 : 1) {
            for (int y = -5; y < 10; y += y == -1 ? 4 : 1) {
                Rig rig = sprites(picture(), sprite(x, y, 1, 0)).draw();
                for (int line = 0; line < 8; line++) {
                    int row = line - y;
                    StringBuilder want = new StringBuilder("0".repeat(16));
                    for (int k = 0; k < 4 && row >= 0 && row < 4; k++) {
                        if (x + k >= 0 && x + k < 16) {
                            want.setCharAt(x + k, rows[row].charAt(k));
                        }
                    }
                    rig.dueLine("sprite at " + x + ", " + y, line, want.toString());
                }
                dueStatus("one sprite", rig, 0);
            }
        }
    }

    private static void turned() {
        Rig rig = sprites(picture(), sprite(0, 1, 0x801, 1), sprite(4, 1, 0x1001, 2), sprite(8, 1, 0x1801, 0)).draw();
        rig.dueLine("above", 0, "0000000000000000");
        rig.dueLine("row 0", 1, "4321cdeffedc0000");
        rig.dueLine("row 1", 2, "076589abba980000");
        rig.dueLine("row 3", 4, "fedc123443210000");
        rig.dueLine("below", 5, "0000000000000000");
    }

    /** The low six bits of Y and X, the low three of the link, and the low four of register 5 count. */
    private static void fields() {
        Rig rig = picture().register(5, 0xF3)
            .vram(96, 0xFFC0 + 18, 0xFFF8 + 7, 0x6781, 0xABC0 + 21).vram(124, 18, 0, 1, 16).draw();
        rig.dueLine("sprites 0 and 7", 2, "1234012340000000");
        rig = picture().register(5, 15).vram(480, 16, 7, 1, 16).vram(508, 19, 0, 1, 24).draw();
        rig.dueLine("the last words of VRAM", 0, "1234000000000000");
        rig.dueLine("the last words of VRAM", 3, "cdef000012340000");
        // Y + 16 = 63 is below the screen, X + 16 = 63 right of it.
        rig = picture().vram(96, 63, 1, 1, 16, 16, 0, 1, 63).draw();
        rig.dueLine("off the screen", 0, "0000000000000000");
    }

    private static void links() {
        // 0 -> 5 -> 2 -> end; sprite 1 is in no chain.
        Rig rig = picture().vram(96, 16, 5, 1, 16).vram(100, 16, 0, 1, 28).vram(104, 16, 0, 1, 20)
            .vram(116, 16, 2, 1, 24).draw();
        rig.dueLine("by links", 0, "1234123412340000");
        // Sprite 0 alone.
        rig = picture().vram(96, 16, 0, 1, 16).vram(100, 16, 0, 1, 28).draw();
        rig.dueLine("link 0 ends", 0, "1234000000000000");
        // All eight, those on a line alone count.
        rig = sprites(picture(), sprite(0, 0, 1, 1), sprite(0, 4, 1, 2), sprite(4, 0, 1, 3), sprite(4, 4, 1, 4),
            sprite(8, 0, 1, 5), sprite(8, 4, 1, 6), sprite(0, 20, 1, 7), sprite(0, 30, 1, 0)).draw();
        rig.dueLine("three", 0, "1234123412340000");
        rig.dueLine("three", 7, "cdefcdefcdef0000");
        dueStatus("three are not too many", rig, 0);
    }

    private static void linkRings() {
        // Sprite 1 links to itself, off the line: the chain ends after eight.
        Rig rig = sprites(picture(), sprite(0, 0, 1, 1), sprite(0, 20, 1, 1)).draw();
        rig.dueLine("a ring off the line", 0, "1234000000000000");
        dueStatus("a ring off the line", rig, 0);
        // On the line it is taken again and again.
        rig = sprites(picture(), sprite(0, 0, 1, 1), sprite(8, 0, 1, 1)).draw();
        rig.dueLine("a ring on the line", 0, "1234000012340000");
        dueStatus("a ring on the line", rig, COLLIDED + TOO_MANY);
        // A ring of seven: 0, 1, 2, 3, 4, 5, 6, then 1 as the eighth and last.
        rig = sprites(picture(), sprite(0, 20, 1, 1), sprite(0, 0, 1, 2), sprite(0, 20, 1, 3), sprite(0, 20, 1, 4),
            sprite(0, 20, 1, 5), sprite(0, 20, 1, 6), sprite(0, 20, 1, 1)).draw();
        dueStatus("the eighth is sprite 1 again", rig, COLLIDED);
        // 0, 1, 2, 3, 4, 5, 6, 7, then 1 would be the ninth.
        rig = sprites(picture(), sprite(0, 20, 1, 1), sprite(0, 0, 1, 2), sprite(0, 20, 1, 3), sprite(0, 20, 1, 4),
            sprite(0, 20, 1, 5), sprite(0, 20, 1, 6), sprite(0, 20, 1, 7), sprite(0, 20, 1, 1)).draw();
        dueStatus("no ninth", rig, 0);
    }

    private static void firstStays() {
        // Pattern 1's row 1 has a 0 at its end: the one behind is seen there.
        Rig rig = sprites(picture(), sprite(2, 0, 1, 1), sprite(4, 0, 2, 0)).draw();
        rig.dueLine("the first stays", 0, "0012342200000000");
        rig.dueLine("seen through", 1, "0056722200000000");
        // Even if the other is high.
        rig = sprites(picture(), sprite(2, 0, 1, 1), sprite(4, 0, 0x8002, 0)).draw();
        rig.dueLine("a high one behind", 0, "0012342200000000");
    }

    private static void collisions() {
        Rig rig = sprites(picture(), sprite(2, 0, 1, 1), sprite(5, 0, 2, 0)).draw();
        dueStatus("one pixel", rig, COLLIDED);
        rig = sprites(picture(), sprite(2, 0, 1, 1), sprite(6, 0, 2, 0)).draw();
        dueStatus("side by side", rig, 0);
        // Row 1's last pixel is seen through, on the one or the other.
        rig = sprites(picture(), sprite(2, -1, 1, 1), sprite(5, 0, 2, 0)).draw();
        dueStatus("rows 1 .. 3 meet", rig, COLLIDED);
        rig = picture().vram(4, 0x1110, 0x1110, 0x1110, 0x1110);
        sprites(rig, sprite(2, 0, 1, 1), sprite(5, 0, 2, 0)).draw();
        dueStatus("the first is seen through", rig, 0);
        rig = picture().vram(4, 0x0111, 0x0111, 0x0111, 0x0111);
        sprites(rig, sprite(5, 0, 2, 1), sprite(8, 0, 1, 0)).draw();
        dueStatus("the second is seen through", rig, 0);
        // Off the screen there are no pixels.
        rig = sprites(picture(), sprite(-4, 0, 2, 1), sprite(-4, 0, 2, 0)).draw();
        dueStatus("left of the screen", rig, 0);
        rig = sprites(picture(), sprite(16, 0, 2, 1), sprite(16, 0, 2, 0)).draw();
        dueStatus("right of the screen", rig, 0);
        rig = sprites(picture(), sprite(15, 0, 2, 1), sprite(15, 0, 2, 0)).draw();
        dueStatus("the last pixel", rig, COLLIDED);
        rig = sprites(picture(), sprite(-3, 0, 2, 1), sprite(-3, 0, 2, 0)).draw();
        dueStatus("the first pixel", rig, COLLIDED);
        rig = sprites(picture(), sprite(0, 8, 2, 1), sprite(0, 8, 2, 0)).draw();
        dueStatus("below the screen", rig, 0);
    }

    private static void tooMany() {
        Rig rig = sprites(picture(), sprite(0, 0, 1, 1), sprite(4, 0, 1, 2), sprite(8, 0, 1, 3), sprite(12, 3, 1, 0))
            .draw();
        rig.dueLine("three", 0, "1234123412340000");
        rig.dueLine("the fourth is not taken", 3, "cdefcdefcdef0000");
        rig.dueLine("alone", 4, "0000000000005670");
        dueStatus("four on line 3", rig, TOO_MANY);
        rig = sprites(picture(), sprite(0, 0, 1, 1), sprite(4, 0, 1, 2), sprite(8, 0, 1, 3), sprite(12, 4, 1, 0)).draw();
        dueStatus("three on each line", rig, 0);
        // Those off the screen to a side count; a fourth that would collide doesn't.
        rig = sprites(picture(), sprite(20, 0, 1, 1), sprite(30, 0, 1, 2), sprite(8, 0, 1, 3), sprite(8, 0, 1, 0)).draw();
        rig.dueLine("three", 0, "0000000012340000");
        dueStatus("no collision of the fourth", rig, TOO_MANY);
        // No more: a fifth is not taken either.
        rig = sprites(picture(), sprite(0, 0, 1, 1), sprite(4, 0, 1, 2), sprite(8, 0, 1, 3), sprite(12, 0, 1, 4),
            sprite(12, 0, 1, 0)).draw();
        rig.dueLine("no fifth", 0, "1234123412340000");
    }

    private static void masks() {
        // The first taken with X + 16 = 0 masks nothing, but counts.
        Rig rig = sprites(picture(), sprite(-16, 0, 1, 1), sprite(0, 0, 1, 2), sprite(4, 0, 1, 0)).draw();
        rig.dueLine("the first masks nothing", 0, "1234123400000000");
        dueStatus("three", rig, 0);
        rig = sprites(picture(), sprite(-16, 0, 1, 1), sprite(0, 0, 1, 2), sprite(4, 0, 1, 3), sprite(8, 0, 1, 0)).draw();
        rig.dueLine("it counts", 0, "1234123400000000");
        dueStatus("four", rig, TOO_MANY);
        // Not the first: those behind it are gone, and not too many.
        rig = sprites(picture(), sprite(0, 0, 1, 1), sprite(-16, 2, 1, 2), sprite(4, 0, 1, 3), sprite(8, 0, 1, 4),
            sprite(12, 2, 1, 0)).draw();
        rig.dueLine("not on the line: three", 1, "5670567056700000");
        rig.dueLine("on the line: one", 2, "89ab000000000000");
        rig.dueLine("behind those", 5, "000000000000cdef");
        dueStatus("masked ones are not too many", rig, 0);
        // A mask as the fourth is too many.
        rig = sprites(picture(), sprite(0, 0, 1, 1), sprite(4, 0, 1, 2), sprite(8, 0, 1, 3), sprite(-16, 0, 1, 0)).draw();
        rig.dueLine("three", 0, "1234123412340000");
        dueStatus("a mask as the fourth", rig, TOO_MANY);
        // As the third it masks the fourth.
        rig = sprites(picture(), sprite(0, 0, 1, 1), sprite(4, 0, 1, 2), sprite(-16, 0, 1, 3), sprite(8, 0, 1, 4),
            sprite(12, 0, 1, 0)).draw();
        rig.dueLine("two", 0, "1234123400000000");
        dueStatus("a mask as the third", rig, 0);
        // Two of them: the second one masks.
        rig = sprites(picture(), sprite(-16, 0, 1, 1), sprite(-16, 0, 1, 2), sprite(8, 0, 1, 0)).draw();
        rig.dueLine("none", 0, "0000000000000000");
        // The first of the chain may be off the line: it is not the first taken.
        rig = sprites(picture(), sprite(0, 20, 1, 1), sprite(-16, 0, 1, 2), sprite(8, 0, 1, 0)).draw();
        rig.dueLine("the first taken", 0, "0000000012340000");
        // The low six bits alone count.
        rig = sprites(picture(), sprite(0, 0, 1, 1), new int[] {16, 2, 1, 0xFFC0}, sprite(8, 0, 1, 0)).draw();
        rig.dueLine("X + 16 = 0", 0, "1234000000000000");
        rig = sprites(picture(), sprite(0, 0, 1, 1), sprite(-15, 0, 1, 2), sprite(8, 0, 1, 0)).draw();
        rig.dueLine("X + 16 = 1", 0, "1234000012340000");
    }

    /** All eight orders of high or low sprite (1), A (2), B (3), where each may be seen through. */
    private static void orderWithPlanes() {
        for (int high = 0; high < 8; high++) {
            for (int there = 0; there < 8; there++) {
                int s = there % 2;
                int a = there / 2 % 2;
                int b = there / 4;
                Rig rig = new Rig().register(1, 64).register(2, 1).register(4, 2).register(5, 3).register(13, 1)
                    .register(7, 9).vram(4, 0x1111).vram(8, 0x2222).vram(12, 0x3333)
                    .vram(32, high / 2 % 2 * 0x8000 + 2 * a).vram(64, high / 4 * 0x8000 + 3 * b);
                sprites(rig, sprite(0, 0, high % 2 * 0x8000 + s, 0)).draw();
                int want = 9;
                int[] layers = {s == 1 ? 1 : 0, a == 1 ? 2 : 0, b == 1 ? 3 : 0};
                for (int k = 5; k >= 0; k--) {
                    boolean isHigh = (high >> k % 3 & 1) == 1;
                    if (layers[k % 3] != 0 && (k >= 3 || isHigh)) {
                        want = layers[k % 3];
                    }
                }
                String digit = Integer.toString(want);
                rig.dueLine("high " + high + ", there " + there, 0, digit.repeat(4) + "9".repeat(12));
            }
        }
    }

    private static void statusBits() {
        Rig rig = sprites(picture(), sprite(0, 0, 1, 1), sprite(0, 0, 1, 2), sprite(8, 0, 1, 3), sprite(12, 0, 1, 0))
            .draw();
        Check.due("memory(1028)", rig.x.memory(1028), 0);
        rig.register(1, 0).read(0, Rig.CONTROL).read(1, Rig.CONTROL).start().steps(3);
        rig.dueRegister("both", 0, rig.x.register(0) & 4 | COLLIDED | TOO_MANY);
        rig.dueRegister("read: gone", 1, rig.x.register(1) & 4);
        // They come again with the next picture.
        rig.register(1, 64).draw();
        dueStatus("again", rig, COLLIDED + TOO_MANY);
    }

    private static void notLookedAtWhenOff() {
        Rig rig = sprites(picture().register(1, 0), sprite(0, 0, 1, 1), sprite(0, 0, 1, 2), sprite(8, 0, 1, 3),
            sprite(12, 0, 1, 0)).draw();
        rig.dueLine("off", 0, "0000000000000000");
        dueStatus("off", rig, 0);
    }
}
