/** Promise 3: reset. */
public final class ResetTest {
    private ResetTest() {
    }

    public static void main(String[] args) {
        mainProcessorStartsAgain();
        waitingEnds();
        elevensStay();
        moveStays();
        pictureUnitAndSecondStay();
        oddStart();
        Check.end();
    }

    private static void mainProcessorStartsAgain() {
        Rig rig = new Rig();
        for (int n = 0; n < 8; n++) {
            rig.put(0x70FF + 512 * n);
        }
        rig.put(0x4E60, 0xD040).go();
        rig.dueRegister("before", 7, -1);
        rig.dueRegister("before", 8, 65535);
        rig.dueRegister("before", 10, 0x709);
        rig.x.rom(1, 600);
        rig.x.rom(3, 200);
        rig.x.reset();
        for (int n = 0; n < 8; n++) {
            rig.dueRegister("after", n, 0);
        }
        rig.dueRegister("S is the word at 2", 8, 600);
        rig.dueRegister("PC is the word at 6", 9, 200);
        rig.dueRegister("MASK 7, flags 0", 10, 0x700);
    }

    private static void waitingEnds() {
        Rig rig = new Rig().put(Rig.STOP, 0x20F).start();
        rig.steps(3);
        rig.dueRegister("waits", 11, 1);
        rig.dueRegister("MASK and flags", 10, 0x20F);
        rig.x.reset();
        rig.dueRegister("waits no more", 11, 0);
        rig.dueRegister("MASK 7, flags 0", 10, 0x700);
        rig.dueRegister("PC", 9, 128);
    }

    private static void elevensStay() {
        Rig rig = new Rig().write(Rig.RESET, 256).put(Rig.NOP);
        rig.x.seed(0, 0xC3);
        rig.x.seed(1, 0);
        rig.x.seed(2, 0x81);
        rig.start();
        rig.dueStep("the second goes into ROM", 16);
        rig.x.rom(64, Rig.NOP);
        rig.x.reset();
        rig.dueStep("a byte of ROM was read", 15);
        rig.dueRegister("the second's PC", 15, 0x8102);
    }

    private static void moveStays() {
        Rig rig = new Rig().register(1, 16).register(9, 0).register(11, 3).register(14, 2)
            .control(0, Rig.VRAM + 32).put(Rig.NOP).start();
        rig.steps(7);
        rig.dueRegister("frozen", 11, 2);
        rig.dueVideo("a word is moved", 0, 0, 0);
        rig.x.reset();
        rig.dueRegister("still frozen", 11, 2);
        rig.dueStep("word 1 is moved", 2);
        rig.dueVideo("word 1", 0, 1, 638);
        rig.dueStep("word 2 is moved", 2);
        rig.dueRegister("frozen no more", 11, 0);
        rig.dueRegister("PC", 9, 128);
        rig.dueStep("then instructions", 16);
    }

    private static void pictureUnitAndSecondStay() {
        Rig rig = new Rig().register(1, 32).register(0, 16).write(Rig.RESET, 256).write(Rig.BUSREQ, 256)
            .write(Rig.PAD, 64).write(512, 77);
        rig.x.seed(0, 0x3E);
        rig.x.seed(1, 9);
        rig.x.seed(2, 0xFB);
        rig.x.seed(3, 0x76);
        rig.draw();
        rig.write(Rig.CONTROL, 0x4002).go();
        int pending = rig.x.video(4, 3);
        Check.due("both pending", pending, 10);
        rig.x.reset();
        Check.due("both pending still", rig.x.video(4, 3), 10);
        rig.dueVideo("ADDRESS", 4, 0, 2);
        rig.dueVideo("CODE", 4, 1, 1);
        rig.dueVideo("a word is waited for", 4, 2, 1);
        rig.dueVideo("register 1", 3, 1, 32);
        rig.dueRegister("A", 12, 9);
        rig.dueRegister("HELD, lets interrupts in, HALTED", 16, 8 + 4 + 2);
        rig.dueMemory("RAM", 512, 77);
        rig.x.pad(63);
        rig.read(0, Rig.PAD).go();
        rig.dueRegister("the pad's bit 6", 0, 127);
    }

    private static void oddStart() {
        TwinConsole x = new TwinConsole();
        x.rom(1, 0xFFFF);
        x.rom(3, 0x0301);
        x.reset();
        Check.due("S", x.register(8), 0xFFFF);
        Check.due("PC", x.register(9), 0x301);
        Check.due("0 is read at an odd address", x.step(), 34);
    }
}
