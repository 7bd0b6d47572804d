/** Promise 1: what a new object holds. */
public final class NewObjectTest {
    private NewObjectTest() {
    }

    public static void main(String[] args) {
        everythingIsZero();
        firstReadsOfThePorts();
        firstInstructionIsAtZero();
        lineZeroIsNotDrawnAtFirst();
        counterIsZero();
        Check.end();
    }

    private static void everythingIsZero() {
        TwinConsole x = new TwinConsole();
        for (int r = 0; r < 16; r++) {
            Check.due("new: register(" + r + ")", x.register(r), 0);
        }
        Check.due("in RESET and not HELD: register(16)", x.register(16), 16);
        for (int a = 0; a < 1100; a++) {
            Check.due("new: memory(" + a + ")", new TwinConsole().memory(a), 0);
        }
        for (int k = 0; k < 512; k++) {
            Check.due("new: video(0, " + k + ")", new TwinConsole().video(0, k), 0);
        }
        for (int k = 0; k < 16; k++) {
            Check.due("new: video(1, " + k + ")", x.video(1, k), 0);
            Check.due("new: video(3, " + k + ")", x.video(3, k), 0);
        }
        Check.due("new: video(2, 0)", x.video(2, 0), 0);
        Check.due("new: video(2, 1)", x.video(2, 1), 0);
        for (int k = 0; k < 4; k++) {
            Check.due("new: video(4, " + k + ")", x.video(4, k), 0);
        }
        for (int k = 0; k < 128; k++) {
            Check.due("new: pixel", x.pixel(k % 16, k / 16), 0);
        }
    }

    private static void firstReadsOfThePorts() {
        int[] addresses = {Rig.DATA, Rig.CONTROL, Rig.POSITION, Rig.BUSREQ, Rig.RESET, Rig.PAD};
        int[] wants = {0, 0, 0, 256, 0, 0};
        for (int k = 0; k < addresses.length; k++) {
            TwinConsole x = new TwinConsole();
            x.rom(0, 0x3038);
            x.rom(1, addresses[k]);
            Check.due("first step", x.step(), 12);
            Check.due("first read of " + addresses[k], x.register(0), wants[k]);
        }
    }

    private static void firstInstructionIsAtZero() {
        TwinConsole x = new TwinConsole();
        x.rom(9, 300);
        Check.due("word 0 can't be done", x.step(), 34);
        Check.due("PC by vector 4", x.register(9), 300);
        Check.due("S below 0", x.register(8), 65530);
        Check.due("MASK stays", x.register(10), 0);
    }

    private static void lineZeroIsNotDrawnAtFirst() {
        TwinConsole x = new TwinConsole();
        int[] words = {0x31FC, 0x8705, Rig.CONTROL, Rig.LOOP};
        for (int k = 0; k < words.length; k++) {
            x.rom(k, words[k]);
        }
        x.run(70);
        Check.due("line 0 not drawn yet", x.pixel(0, 0), 0);
        Check.due("line 1 drawn", x.pixel(0, 1), 5);
        Check.due("line 2 not drawn yet", x.pixel(0, 2), 0);
        x.run(700);
        Check.due("line 0 drawn", x.pixel(15, 0), 5);
    }

    private static void counterIsZero() {
        TwinConsole x = new TwinConsole();
        int[] words = {0x31FC, 0x8010, Rig.CONTROL, Rig.STOP, 0x0700};
        for (int k = 0; k < words.length; k++) {
            x.rom(k, words[k]);
        }
        Check.due("to the last instruction of line 0", x.run(60), 60);
        Check.due("nothing pending in line 0", x.video(4, 3), 0);
        x.step();
        Check.due("the counter was 0 as line 1 began", x.video(4, 3), 4);
    }
}
