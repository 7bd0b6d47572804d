/** Promise 3: reset. */
public final class ResetTest {
    private ResetTest() {
    }

    public static void main(String[] args) {
        Check.that("all registers and flags 0", ResetTest::registersAndFlags);
        Check.that("S = the word at 2, PC = that at 6", ResetTest::stackAndStart);
        Check.that("S = the word at 2, PC = that at 6 (odd ones, beyond memory)", ResetTest::oddStart);
        Check.that("MASK 7", ResetTest::maskSeven);
        Check.that("not waiting", ResetTest::waitingEnds);
        Check.that("(the 11s that it owes stay)", ResetTest::elevensStay);
        Check.that("the picture unit (what is pending and a move, too) and the second stay (a move)", ResetTest::moveStays);
        Check.that("the picture unit (what is pending and a move, too) and the second stay (a fill)", ResetTest::fillStays);
        Check.that("the picture unit (what is pending and a move, too) and the second stay", ResetTest::otherPartsStay);
        Check.that("the picture unit (what is pending and a move, too) and the second stay (line, cycle, STATUS)",
            ResetTest::lineAndStatusStay);
        Check.that("the picture unit (what is pending and a move, too) and the second stay (what it owes)",
            ResetTest::owedCyclesStay);
        Check.end();
    }

    private static void registersAndFlags() {
        Rig rig = new Rig();
        for (int n = 0; n < 8; n++) {
            rig.put(0x70FF + 512 * n);
        }
        rig.put(0xD040).go();
        rig.dueRegister("before", 7, -1);
        rig.dueRegister("before", 10, 0x709);
        rig.x.reset();
        for (int n = 0; n < 8; n++) {
            rig.dueRegister("after", n, 0);
        }
        rig.dueRegister("MASK 7, flags 0", 10, 0x700);
        rig = new Rig().put(Rig.STOP, 0xF).start().steps(1);
        rig.dueRegister("all flags", 10, 0xF);
        rig.x.reset();
        rig.dueRegister("MASK 7, flags 0", 10, 0x700);
    }

    private static void stackAndStart() {
        Rig rig = new Rig().put(0x70FF, 0x4E60).go();
        rig.dueRegister("S before", 8, 65535);
        rig.x.rom(0, 1);
        rig.x.rom(1, 600);
        rig.x.rom(2, 2);
        rig.x.rom(3, 200);
        rig.x.reset();
        rig.dueRegister("S", 8, 600);
        rig.dueRegister("PC", 9, 200);
        TwinConsole x = new TwinConsole();
        x.reset();
        Check.due("S of an empty ROM", x.register(8), 0);
        Check.due("PC of an empty ROM", x.register(9), 0);
    }

    private static void oddStart() {
        TwinConsole x = new TwinConsole();
        x.rom(1, 0xFFFF);
        x.rom(3, 0x0301);
        x.reset();
        Check.due("S", x.register(8), 0xFFFF);
        Check.due("PC", x.register(9), 0x301);
        Check.due("0 is read at an odd address", x.step(), 34);
        x.rom(3, 0xFFFE);
        x.reset();
        Check.due("PC", x.register(9), 0xFFFE);
        Check.due("0 is read beyond memory", x.step(), 34);
    }

    private static void maskSeven() {
        for (int mask = 0; mask < 8; mask++) {
            Rig rig = new Rig().put(Rig.STOP, 256 * mask).start().steps(1);
            rig.dueRegister("MASK before", 10, 256 * mask);
            rig.x.reset();
            rig.dueRegister("MASK", 10, 0x700);
        }
    }

    private static void waitingEnds() {
        Rig rig = new Rig().put(Rig.STOP, 0x20F).start();
        rig.steps(3);
        rig.dueRegister("waits", 11, 1);
        rig.x.reset();
        rig.dueRegister("waits no more", 11, 0);
        rig.dueRegister("PC", 9, 128);
        rig.dueStep("the instruction again", 4);
        rig.dueRegister("PC", 9, 132);
    }

    private static void elevensStay() {
        Rig rig = new Rig().write(Rig.RESET, 256).seed(0, 0xC3, 0, 0x81).start();
        rig.dueStep("the second goes into ROM", 16);
        rig.x.rom(64, Rig.NOP);
        rig.x.reset();
        rig.dueStep("a byte of ROM was read", 15);
        rig.dueRegister("the second's PC", 15, 0x8102);
    }

    private static void moveStays() {
        Rig rig = new Rig().register(1, 16).register(9, 0).register(11, 3).register(14, 2)
            .control(0, Rig.VRAM + 32).start();
        rig.steps(7);
        rig.dueRegister("frozen", 11, 2);
        rig.dueVideo("a word is moved", 0, 0, 0);
        rig.x.reset();
        rig.dueRegister("still frozen", 11, 2);
        rig.dueStep("word 1 is moved", 2);
        rig.dueVideo("word 1", 0, 1, 638);
        rig.dueStep("word 2 is moved", 2);
        rig.dueRegister("frozen no more", 11, 0);
        rig.dueRegister("PC", 9, 128);
        rig.dueStep("then instructions", 16);
    }

    private static void fillStays() {
        Rig rig = new Rig().moving(2, 0, 2).control(0, Rig.VRAM + 32).go();
        rig.x.reset();
        rig.data(0x5500).go();
        rig.dueVideo("the fill was waited for still", 0, 2, 0x0055);
    }

    private static void otherPartsStay() {
        Rig rig = new Rig().register(1, 32).register(0, 16).write(Rig.RESET, 256).write(Rig.BUSREQ, 256)
            .write(Rig.PAD, 64).write(512, 77).seed(0, 0x3E, 9, 0xFB, 0x76).draw();
        rig.write(Rig.CONTROL, 0x4002).go();
        rig.dueVideo("both pending", 4, 3, 10);
        rig.x.reset();
        rig.dueVideo("both pending still", 4, 3, 10);
        rig.dueVideo("ADDRESS", 4, 0, 2);
        rig.dueVideo("CODE", 4, 1, 1);
        rig.dueVideo("a word is waited for", 4, 2, 1);
        rig.dueVideo("register 1", 3, 1, 32);
        rig.dueRegister("A", 12, 9);
        rig.dueRegister("PC of the second", 15, 4);
        rig.dueRegister("HELD, lets interrupts in, HALTED", 16, 8 + 4 + 2);
        rig.dueMemory("RAM", 512, 77);
        rig.x.pad(63);
        rig.read(0, Rig.PAD).go();
        rig.dueRegister("the pad's bit 6", 0, 127);
    }

    private static void lineAndStatusStay() {
        Rig rig = new Rig().put(Rig.STOP, 0x700).start();
        rig.x.run(600);
        rig.x.reset();
        rig.read(0, Rig.POSITION).read(1, Rig.CONTROL).start().steps(2);
        rig.dueRegister("line and cycle", 0, 9 * 256 + 24);
        rig.dueRegister("line 8 or more", 1, 4);
    }

    /** 16 cycles are given, two instructions of 13 done: 10 are owed. */
    private static void owedCyclesStay() {
        Rig rig = new Rig().write(Rig.RESET, 256).seed(0, 0x3A, 9, 0, 0x3A, 9, 0, 0x3A, 9, 0).start().steps(1);
        rig.dueRegister("two are done", 15, 6);
        rig.at(128, Rig.NOP, Rig.NOP, Rig.NOP).start().steps(1);
        rig.dueRegister("6 are owed still", 15, 6);
        rig.x.reset();
        rig.steps(1);
        rig.dueRegister("2 are owed still", 15, 6);
        rig.steps(1);
        rig.dueRegister("2 are left", 15, 9);
    }
}
