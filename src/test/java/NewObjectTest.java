/** Promise 1: what a new object holds. */
public final class NewObjectTest {
    private NewObjectTest() {
    }

    public static void main(String[] args) {
        Check.that("Everything 0", NewObjectTest::everythingIsZero);
        Check.that("Everything 0 (the ports' first answers)", NewObjectTest::firstReadsOfThePorts);
        Check.that("Everything 0 (PC, S and MASK)", NewObjectTest::firstInstructionIsAtZero);
        Check.that("Everything 0 (the COUNTER)", NewObjectTest::counterIsZero);
        Check.that("the second in RESET and not HELD", NewObjectTest::secondInReset);
        Check.that("line 0, cycle 0", NewObjectTest::lineZeroCycleZero);
        Check.that("nothing pending", NewObjectTest::nothingPending);
        Check.that("Line 0 isn't drawn at first.", NewObjectTest::lineZeroIsNotDrawnAtFirst);
        Check.that("(one object keeps nothing of another)", NewObjectTest::objectsAreApart);
        Check.end();
    }

    private static TwinConsole withWords(int... words) {
        TwinConsole x = new TwinConsole();
        for (int k = 0; k < words.length; k++) {
            x.rom(k, words[k]);
        }
        return x;
    }

    private static void everythingIsZero() {
        TwinConsole x = new TwinConsole();
        for (int r = 0; r < 16; r++) {
            Check.due("new: register(" + r + ")", x.register(r), 0);
        }
        for (int a = 0; a < 1100; a++) {
            Check.due("new: memory(" + a + ")", new TwinConsole().memory(a), 0);
        }
        for (int k = 0; k < 512; k++) {
            Check.due("new: video(0, " + k + ")", new TwinConsole().video(0, k), 0);
        }
        for (int k = 0; k < 16; k++) {
            Check.due("new: video(1, " + k + ")", x.video(1, k), 0);
            Check.due("new: video(3, " + k + ")", x.video(3, k), 0);
        }
        Check.due("new: video(2, 0)", x.video(2, 0), 0);
        Check.due("new: video(2, 1)", x.video(2, 1), 0);
        for (int k = 0; k < 3; k++) {
            Check.due("new: video(4, " + k + ")", x.video(4, k), 0);
        }
        for (int k = 0; k < 128; k++) {
            Check.due("new: pixel", x.pixel(k % 16, k / 16), 0);
        }
    }

    private static void firstReadsOfThePorts() {
        int[] addresses = {Rig.DATA, Rig.CONTROL, Rig.POSITION, Rig.BUSREQ, Rig.RESET, Rig.PAD};
        int[] wants = {0, 0, 0, 256, 0, 0};
        for (int k = 0; k < addresses.length; k++) {
            TwinConsole x = withWords(0x3038, addresses[k]);
            Check.due("first step", x.step(), 12);
            Check.due("first read of " + addresses[k], x.register(0), wants[k]);
        }
    }

    private static void firstInstructionIsAtZero() {
        TwinConsole x = new TwinConsole();
        x.rom(9, 300);
        Check.due("word 0 can't be done", x.step(), 34);
        Check.due("PC by vector 4", x.register(9), 300);
        Check.due("S below 0", x.register(8), 65530);
        Check.due("MASK stays", x.register(10), 0);
    }

    private static void counterIsZero() {
        TwinConsole x = withWords(0x31FC, 0x8010, Rig.CONTROL, Rig.STOP, 0x0700);
        Check.due("to the last instruction of line 0", x.run(60), 60);
        Check.due("nothing pending in line 0", x.video(4, 3), 0);
        x.step();
        Check.due("the counter was 0 as line 1 began", x.video(4, 3), 4);
    }

    private static void secondInReset() {
        TwinConsole x = new TwinConsole();
        Check.due("in RESET and not HELD", x.register(16), 16);
        x.seed(0, 0x3C);
        x.run(100);
        Check.due("it does nothing", x.register(15), 0);
        Check.due("its RAM is seen", x.memory(768), 0x3C3C);
    }

    private static void lineZeroCycleZero() {
        TwinConsole x = withWords(0x3038, Rig.POSITION, 0x3238, Rig.POSITION);
        x.step();
        Check.due("line and cycle", x.register(0), 0);
        x.step();
        Check.due("line and cycle", x.register(1), 12);
    }

    private static void nothingPending() {
        TwinConsole x = withWords(Rig.NOP);
        Check.due("pending", x.video(4, 3), 0);
        Check.due("MASK 0 would let any in", x.step(), 4);
    }

    private static void lineZeroIsNotDrawnAtFirst() {
        TwinConsole x = withWords(0x31FC, 0x8705, Rig.CONTROL, Rig.LOOP);
        x.run(70);
        Check.due("line 0 not drawn yet", x.pixel(0, 0), 0);
        Check.due("line 1 drawn", x.pixel(0, 1), 5);
        Check.due("line 2 not drawn yet", x.pixel(0, 2), 0);
        x.run(700);
        Check.due("line 0 drawn", x.pixel(15, 0), 5);
    }

    private static void objectsAreApart() {
        Rig rig = new Rig().write(512, 1).write(770, 0x200).vram(0, 3).register(7, 4).write(Rig.BUSREQ, 256).draw();
        TwinConsole x = new TwinConsole();
        Check.due("RAM", x.memory(512), 0);
        Check.due("the second's RAM", x.memory(770), 0);
        Check.due("ROM", x.memory(2), 0);
        Check.due("VRAM", x.video(0, 0), 0);
        Check.due("a register", x.video(3, 7), 0);
        Check.due("a pixel", x.pixel(0, 0), 0);
        Check.due("not HELD", x.register(16), 16);
        Check.due("the other keeps its own", rig.x.memory(512), 1);
    }
}
