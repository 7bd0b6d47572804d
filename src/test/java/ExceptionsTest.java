/** Promise 5: the main processor's exceptions and interrupts. */
public final class ExceptionsTest {
    private ExceptionsTest() {
    }

    public static void main(String[] args) {
        Check.that("the word of MASK and flags is written at S - 6, 0 at S - 4, PC at S - 2; S falls by 6; PC = the word"
            + " at 4 v + 2.", ExceptionsTest::whatIsWritten);
        Check.that("(MASK stays)", ExceptionsTest::maskStays);
        Check.that("(of the word that could not be done, or behind it for interrupts)", ExceptionsTest::whichPc);
        Check.that("PC = the word at 4 v + 2", ExceptionsTest::vectors);
        Check.that("(on the main bus, as any word) (odd S: nothing written)", ExceptionsTest::oddStack);
        Check.that("(on the main bus, as any word) (at RAM's ends)", ExceptionsTest::stackAtTheEndsOfRam);
        Check.that("(on the main bus, as any word) (the second's RAM)", ExceptionsTest::stackInTheSecondsRam);
        Check.that("(on the main bus, as any word) (the ports)", ExceptionsTest::stackAtThePorts);
        Check.that("(PC and S count modulo 65536.) (S downwards)", ExceptionsTest::stackBelowZero);
        Check.that("if it is PENDING and its level is above MASK", ExceptionsTest::levelAboveMask);
        Check.that("if it is PENDING", ExceptionsTest::notPending);
        Check.that("the higher first", ExceptionsTest::higherFirst);
        Check.that("it is pending no more", ExceptionsTest::pendingNoMore);
        Check.that("the exception has vector 24 + level, then MASK = level [44]", ExceptionsTest::vectorAndMask);
        Check.that("waiting ends", ExceptionsTest::waitingEnds);
        Check.that("is taken before an instruction (not above MASK: waiting goes on)", ExceptionsTest::waitingGoesOn);
        Check.that("An INTERRUPT is an exception as any (the ports)", ExceptionsTest::interruptAtThePorts);
        Check.end();
    }

    private static void whatIsWritten() {
        Rig rig = new Rig().write(634, 99).put(0x70FF, 0xFFFF).at(400, 0x4AFC).start().steps(2);
        rig.dueStep("can't be done", 34);
        rig.dueMemory("MASK and flags", 632, 0x708);
        rig.dueMemory("0", 634, 0);
        rig.dueMemory("PC", 636, 136);
        rig.dueMemory("no more", 630, 0);
        rig.dueMemory("no more", 638, 0);
        rig.dueRegister("S", 8, 632);
        rig.dueRegister("PC", 9, 400);
        rig.dueStep("another", 34);
        rig.dueMemory("MASK and flags", 626, 0x708);
        rig.dueMemory("PC of the word", 630, 400);
        rig.dueRegister("S", 8, 626);
    }

    private static void maskStays() {
        for (int mask = 0; mask < 8; mask++) {
            int word = 256 * mask + mask;
            Rig rig = new Rig().jump(300, word).at(300, 0x4AFC).start().steps(7);
            rig.dueRegister("MASK and flags", 10, word);
            rig.dueMemory("as written", 632, word);
        }
    }

    private static void whichPc() {
        Rig rig = new Rig().put(0x6604, 0, 0, 0x4AFC).start().steps(2);
        rig.dueMemory("of the word that could not be done", 636, 134);
        rig = pending(0, 16).put(Rig.STOP, 0).start();
        rig.steps(1);
        rig.dueStep("the interrupt", 44);
        rig.dueMemory("behind both words of the instruction", 636, 132);
        rig = pending(0, 16).jump(300, 0).at(300, 0x4AFC).start().steps(6);
        rig.dueStep("the interrupt, not the exception", 44);
        rig.dueMemory("of the next word", 636, 300);
    }

    /** Level 4 (register 0's bit 4) or 6 (register 1's bit 5) is pending, with MASK 7; a new program may be put. */
    private static Rig pending(int register, int value) {
        Rig rig = new Rig().register(register, value).put(Rig.STOP, 0x700).start();
        rig.x.run(512);
        return rig.start();
    }

    private static Rig bothPending() {
        Rig rig = new Rig().register(0, 16).register(1, 32).put(Rig.STOP, 0x700).start();
        rig.x.run(512);
        return rig.start();
    }

    private static void vectors() {
        // The words beside a vector are others: 9, 57 and 61 alone are read.
        Rig rig = new Rig().put(0x4AFC).at(16, 1, 402, 3).start().steps(1);
        rig.dueRegister("vector 4", 9, 402);
        rig = pending(0, 16).put(Rig.STOP, 0).at(112, 1, 422, 3).start().steps(2);
        rig.dueRegister("vector 28", 9, 422);
        rig = pending(1, 32).put(Rig.STOP, 0).at(120, 1, 442, 3).start().steps(2);
        rig.dueRegister("vector 30", 9, 442);
        rig = new Rig().put(0x4AFC).at(18, 0xFFFF).start().steps(1);
        rig.dueRegister("any word", 9, 65535);
    }

    private static void oddStack() {
        Rig rig = new Rig().write(614, 97).write(616, 98).write(618, 99).stackAt(621).put(0x4AFC).start().steps(7);
        rig.dueMemory("nothing written", 614, 97);
        rig.dueMemory("nothing written", 616, 98);
        rig.dueMemory("nothing written", 618, 99);
        rig.dueRegister("S", 8, 615);
        rig.dueRegister("PC", 9, 400);
    }

    private static void stackAtTheEndsOfRam() {
        Rig rig = new Rig().stackAt(514).put(0x4AFC).at(508, 0x1111, 0x2222).start().steps(4);
        rig.dueMemory("ROM is not written", 508, 0x1111);
        rig.dueMemory("ROM is not written", 510, 0x2222);
        rig.dueMemory("PC in RAM's first word", 512, 140);
        rig.dueRegister("S", 8, 508);
        rig = new Rig().stackAt(644).put(0x4AFC).start().steps(4);
        rig.dueMemory("MASK in RAM's last word", 638, 0x700);
        rig.dueMemory("nothing behind", 640, 0);
        rig.dueMemory("nothing behind", 642, 0);
        rig.dueRegister("S", 8, 638);
    }

    private static void stackInTheSecondsRam() {
        Rig rig = new Rig().stackAt(774).put(0x4AFC).seed(0, 1, 0, 2, 0, 3).start().steps(4);
        rig.dueMemory("the high half of MASK and flags", 768, 0x0707);
        rig.dueMemory("0", 770, 0);
        rig.dueMemory("the high half of PC", 772, 0);
        rig = new Rig().write(Rig.RESET, 256).stackAt(774).put(0x4AFC).write(Rig.RESET, 0).at(400, 0x31FC, 0, Rig.RESET)
            .seed(0, 0x76, 0, 2, 0, 3).start().steps(6);
        rig.dueMemory("nothing written while it runs", 768, 0x7676);
        rig.dueMemory("nothing written while it runs", 770, 0x0202);
        rig.dueMemory("nothing written while it runs", 772, 0x0303);
    }

    /** With S = 1030, DATA gets MASK and flags first, then CONTROL gets PC. */
    private static void stackAtThePorts() {
        Rig rig = new Rig().control(6, Rig.VRAM).register(14, 4).write(Rig.CONTROL, 0x4006).stackAt(1030).start();
        rig.steps(7);
        rig.dueVideo("a word is waited for", 4, 2, 1);
        int at = rig.x.register(9);
        rig.dueStep("can't be done", 34);
        rig.dueVideo("DATA is written", 0, 3, 0x700);
        rig.dueVideo("CONTROL is written then: ADDRESS", 4, 0, at);
        rig.dueVideo("CODE", 4, 1, 0);
        rig.dueVideo("it was a first word", 4, 2, 1);
        rig.dueRegister("S", 8, 1024);
        // BUSREQ gets MASK and flags, RESET gets PC.
        rig = new Rig().stackAt(1046).put(0x6064).start().steps(4);
        rig.dueRegister("in RESET", 16, 16);
        rig.dueRegister("PC below 256", 9, 242);
        rig.dueStep("can't be done", 34);
        rig.dueRegister("HELD by MASK's bit 8, in RESET still", 16, 16 + 8);
        rig.dueStep("again, at 400: S was 1040, so nothing is told", 34);
        rig.dueRegister("as before", 16, 16 + 8);
    }

    private static void stackBelowZero() {
        for (int s = 0; s < 6; s++) {
            Rig rig = new Rig().put(0x7000 + s, 0x4E60, 0x4AFC).start().steps(2);
            rig.dueRegister("S", 8, s);
            rig.dueStep("can't be done", 34);
            rig.dueRegister("S", 8, 65536 + s - 6);
            rig.dueRegister("PC", 9, 400);
            rig.dueMemory("ROM is not written", 2, 638);
            rig.dueMemory("nothing there", 65534, 0);
        }
        Rig rig = new Rig().put(0x7006, 0x4E60, 0x4AFC).start().steps(3);
        rig.dueRegister("S just 0", 8, 0);
    }

    private static void levelAboveMask() {
        for (int mask = 0; mask < 8; mask++) {
            Rig rig = pending(1, 32).jump(300, 256 * mask).at(300, Rig.NOP).start().steps(6);
            rig.dueStep("level 6 with MASK " + mask, mask < 6 ? 44 : 4);
            rig.dueRegister("MASK then", 10, mask < 6 ? 0x600 : 256 * mask);
            rig.dueVideo("pending then", 4, 3, mask < 6 ? 0 : 6);
            rig = pending(0, 16).jump(300, 256 * mask).at(300, Rig.NOP).start().steps(6);
            rig.dueStep("level 4 with MASK " + mask, mask < 4 ? 44 : 4);
            rig.dueRegister("MASK then", 10, mask < 4 ? 0x400 : 256 * mask);
            rig.dueVideo("pending then", 4, 3, mask < 4 ? 0 : 4);
        }
    }

    private static void notPending() {
        Rig rig = new Rig().put(Rig.STOP, 0x000).start();
        rig.x.run(800);
        rig.dueRegister("it waits on", 11, 1);
        rig.dueRegister("S", 8, 638);
    }

    private static void higherFirst() {
        Rig rig = bothPending().put(Rig.STOP, 0x30A).at(440, Rig.RTE).at(420, Rig.NOP).start().steps(1);
        rig.dueVideo("both", 4, 3, 10);
        rig.dueStep("level 6", 44);
        rig.dueVideo("level 4 is pending still", 4, 3, 4);
        rig.dueRegister("PC", 9, 440);
        rig.dueStep("back: level 4 is not above 6", 20);
        rig.dueRegister("PC", 9, 132);
        rig.dueStep("level 4", 44);
        rig.dueVideo("none", 4, 3, 0);
        rig.dueRegister("PC", 9, 420);
        rig.dueStep("an instruction", 4);
        // With MASK 5, level 6 is above it, level 4 is not.
        rig = bothPending().put(Rig.STOP, 0x500).at(440, Rig.RTE).start().steps(3);
        rig.dueStep("an instruction", 34);
        rig.dueVideo("level 4 is pending still", 4, 3, 4);
    }

    private static void pendingNoMore() {
        Rig rig = pending(1, 32).put(Rig.STOP, 0).at(440, Rig.RTE).start().steps(2);
        rig.dueVideo("none", 4, 3, 0);
        rig.dueStep("back", 20);
        rig.dueRegister("MASK 0", 10, 0);
        rig.dueStep("not taken again", 34);
        rig.dueMemory("S is as at first", 636, 132);
    }

    private static void vectorAndMask() {
        Rig rig = pending(1, 32).put(Rig.STOP, 0x30A).start().steps(1);
        rig.dueStep("level 6", 44);
        rig.dueRegister("PC", 9, 440);
        rig.dueRegister("MASK 6, flags stay", 10, 0x60A);
        rig.dueMemory("MASK as it was, and flags", 632, 0x30A);
        rig.dueMemory("0", 634, 0);
        rig.dueRegister("S", 8, 632);
        rig = pending(0, 16).put(Rig.STOP, 0x305).start().steps(1);
        rig.dueStep("level 4", 44);
        rig.dueRegister("PC", 9, 420);
        rig.dueRegister("MASK 4, flags stay", 10, 0x405);
        rig.dueMemory("MASK as it was, and flags", 632, 0x305);
    }

    private static void waitingEnds() {
        Rig rig = new Rig().register(1, 32).put(Rig.STOP, 0x500, 0x7001).at(440, 0x7209, Rig.RTE).start();
        rig.upTo(0, 512);
        rig.dueRegister("waits", 11, 1);
        rig.dueStep("the interrupt", 44);
        rig.dueRegister("waits no more", 11, 0);
        rig.steps(2);
        rig.dueRegister("D1", 1, 9);
        rig.dueRegister("behind the waiting", 9, 138);
        rig.dueStep("on", 4);
        rig.dueRegister("D0", 0, 1);
    }

    private static void waitingGoesOn() {
        Rig rig = bothPending().put(Rig.STOP, 0x600).start().steps(1);
        for (int k = 0; k < 10; k++) {
            rig.dueStep("waiting", 4);
        }
        rig.dueRegister("waits", 11, 1);
        rig.dueVideo("both pending", 4, 3, 10);
    }

    private static void interruptAtThePorts() {
        Rig rig = pending(1, 32).register(14, 2).control(8, Rig.VRAM).stackAt(1030).put(Rig.STOP, 0x105).start();
        rig.steps(7);
        rig.dueStep("the interrupt", 44);
        rig.dueVideo("MASK and flags to DATA", 0, 4, 0x105);
        rig.dueVideo("PC to CONTROL", 4, 0, 162);
        rig.dueRegister("MASK", 10, 0x605);
    }
}
