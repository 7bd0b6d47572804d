/** Promise 5: the main bus as instructions read and write it. */
public final class BusTest {
    private BusTest() {
    }

    public static void main(String[] args) {
        Check.that("0 .. 510: 256 words of ROM.", BusTest::romEnds);
        Check.that("512 .. 638: 64 words of RAM.", BusTest::ramEnds);
        Check.that("768 .. 895: the second's RAM, byte address - 768", BusTest::secondsRamEnds);
        Check.that("(so the even ones alone;", BusTest::secondsEvenBytesAlone);
        Check.that("a word read has it in both halves; a word written writes its high half)", BusTest::halves);
        Check.that("only while the second is HELD or in RESET; else 0 is read and nothing written", BusTest::onlyWhileItStands);
        Check.that("1024: the DATA port. 1028: the CONTROL port", BusTest::besideThePorts);
        Check.that("1032: read: line * 256 + the cycle in it.", BusTest::position);
        Check.that("1032: read: (nothing written)", BusTest::positionIsNotWritten);
        Check.that("1040: BUSREQ: bit 8 written 1 holds the second, 0 lets it go", BusTest::busRequestBit);
        Check.that("(read: 256 while it is not HELD, else 0)", BusTest::busRequestRead);
        Check.that("1044: RESET: bit 8 written 0 puts it in RESET, 1 takes it out", BusTest::resetBit);
        Check.that("1 takes it out, if it is in it", BusTest::outWhenNotIn);
        Check.that("1044: RESET: bit 8 written 0 puts it in RESET (when it is in it: nothing)", BusTest::inWhenIn);
        Check.that("(all it has but its RAM becomes 0 then", BusTest::allBecomesZero);
        Check.that("what it owes, too", BusTest::whatItOwesBecomesZero);
        Check.that("HELD it stays)", BusTest::heldItStays);
        Check.that("read: 0.", BusTest::resetReadsZero);
        Check.that("Other addresses, odd ones: 0 is read, nothing written.", BusTest::oddAddresses);
        Check.that("Other addresses: 0 is read, nothing written.", BusTest::otherAddresses);
        Check.that("reads instructions, vectors and its stack quietly (instructions)", BusTest::quietInstructions);
        Check.that("reads instructions, vectors and its stack quietly (its stack)", BusTest::quietStack);
        Check.end();
    }

    private static void romEnds() {
        Rig rig = new Rig().at(0, 0x1111).at(510, 0x2222).read(0, 0).read(1, 510).write(0, 5).write(510, 6)
            .write(2, 7).start().steps(5);
        rig.dueRegister("the first", 0, 0x1111);
        rig.dueRegister("the last", 1, 0x2222);
        rig.dueMemory("not written", 0, 0x1111);
        rig.dueMemory("not written", 2, 638);
        rig.dueMemory("not written", 510, 0x2222);
    }

    private static void ramEnds() {
        Rig rig = new Rig().write(510, 0x8001).write(512, 0x8002).write(638, 0x8003).write(640, 0x8004)
            .read(0, 510).read(1, 512).read(2, 638).read(3, 640).start().steps(8);
        rig.dueRegister("ROM", 0, 0);
        rig.dueRegister("the first", 1, 0x8002);
        rig.dueRegister("the last", 2, 0x8003);
        rig.dueRegister("behind", 3, 0);
        for (int address = 512; address < 640; address += 2) {
            rig = new Rig().write(address, 0x8765).read(0, address).start().steps(2);
            rig.dueRegister("word at " + address, 0, 0x8765);
            for (int other = 510; other < 642; other += 2) {
                rig.dueMemory("written at " + address, other, other == address ? 0x8765 : 0);
            }
        }
    }

    private static void secondsRamEnds() {
        Rig rig = new Rig().write(766, 0x1100).write(768, 0x2200).write(894, 0x3300).write(896, 0x4400)
            .read(0, 766).read(1, 768).read(2, 894).read(3, 896).start().steps(8);
        rig.dueRegister("before", 0, 0);
        rig.dueRegister("the first", 1, 0x2222);
        rig.dueRegister("the last", 2, 0x3333);
        rig.dueRegister("behind", 3, 0);
        for (int address = 768; address < 896; address += 2) {
            rig = new Rig().write(address, 0x8765).start().steps(1);
            for (int other = 766; other < 898; other += 2) {
                rig.dueMemory("written at " + address, other, other == address ? 0x8787 : 0);
            }
        }
    }

    private static void secondsEvenBytesAlone() {
        Rig rig = new Rig();
        for (int k = 0; k < 128; k++) {
            rig.x.seed(k, 128 + k);
        }
        rig.read(0, 769).read(1, 895).write(769, 0xFFFF).write(895, 0xFFFF).start().steps(4);
        rig.dueRegister("byte 1", 0, 0);
        rig.dueRegister("byte 127", 1, 0);
        for (int k = 0; k < 128; k++) {
            rig.dueMemory("byte " + k, 768 + k, k % 2 == 0 ? (128 + k) * 257 : 0);
        }
        // The second finds what was seeded in its odd bytes.
        rig.seed(0, 0x3A, 127, 0).write(Rig.RESET, 256).start().steps(1);
        rig.dueRegister("byte 127 was not written", 12, 255);
    }

    private static void halves() {
        int[] words = {0x0000, 0x00FF, 0xFF00, 0x1234, 0xFFFF, 0x0100, 0x80FF};
        for (int w : words) {
            Rig rig = new Rig().write(770, w).read(0, 770).seed(2, 0x55).start().steps(2);
            rig.dueRegister("of " + w, 0, (w >> 8) * 257);
            rig.dueMemory("the byte before", 768, 0);
            rig.dueMemory("the byte behind", 772, 0);
        }
        // The second reads its byte 3, which is beside the one that was written.
        Rig rig = new Rig().write(770, 0x00FF).write(Rig.RESET, 256).seed(0, 0x3A, 3, 9, 0x77).start().steps(2);
        rig.dueRegister("the low half is not written", 12, 0x77);
    }

    /** The steps' ends: in RESET, in RESET and HELD, HELD alone, neither, in RESET. */
    private static void onlyWhileItStands() {
        int[][] states = {{0, 0, 1}, {0, 256, 1}, {256, 256, 1}, {256, 0, 0}};
        for (int[] state : states) {
            Rig rig = new Rig().write(Rig.BUSREQ, state[1]).write(Rig.RESET, state[0]).read(0, 772).write(772, 0x5678)
                .read(1, 772).write(Rig.RESET, 0).read(2, 772).seed(0, 0x76).seed(4, 0x99).start().steps(7);
            boolean seen = state[2] == 1;
            rig.dueRegister("read", 0, seen ? 0x9999 : 0);
            rig.dueRegister("read once written", 1, seen ? 0x5656 : 0);
            rig.dueRegister("read in RESET then", 2, seen ? 0x5656 : 0x9999);
        }
    }

    private static void besideThePorts() {
        int[] beside = {1022, 1023, 1025, 1026, 1027, 1029, 1030, 1031};
        for (int address : beside) {
            Rig rig = new Rig().vram(0, 0x1111).control(0, Rig.VRAM).write(Rig.CONTROL, 0x4002)
                .write(address, 0x8709).read(0, address).go();
            rig.dueRegister("read at " + address, 0, 0);
            rig.dueVideo("no register", 3, 7, 0);
            rig.dueVideo("a word is waited for still", 4, 2, 1);
            rig.dueVideo("ADDRESS", 4, 0, 2);
            rig.dueVideo("nothing written", 0, 1, 0);
        }
        Rig rig = new Rig().vram(0, 0x1111).control(0, 0).read(0, Rig.DATA).go();
        rig.dueRegister("DATA itself", 0, 0x1111);
        rig = new Rig().put(Rig.STOP, 0x700).start();
        rig.x.run(512);
        rig.read(0, Rig.CONTROL).start().steps(1);
        rig.dueRegister("CONTROL itself", 0, 4);
    }

    private static void position() {
        Rig rig = new Rig().put(Rig.STOP, 0x700).start();
        rig.upTo(0, 60);
        rig.read(0, Rig.POSITION).read(1, Rig.POSITION).start().steps(2);
        rig.dueRegister("the end of line 0", 0, 60);
        rig.dueRegister("line 1", 1, 256 + 8);
        rig = new Rig().put(Rig.STOP, 0x700).start();
        rig.upTo(0, 764);
        rig.read(0, Rig.POSITION).read(1, Rig.POSITION).start().steps(2);
        rig.dueRegister("the end of line 11", 0, 11 * 256 + 60);
        rig.dueRegister("line 0 again", 1, 8);
        // 16 cycles, 16 with the 11 of a byte of ROM, five times 4: the last cycle of the line.
        rig = new Rig().write(Rig.RESET, 256).write(Rig.RESET, 0).put(Rig.NOP, Rig.NOP, Rig.NOP, Rig.NOP, Rig.NOP)
            .read(0, Rig.POSITION).seed(0, 0xC3, 0, 0x81).start().steps(8);
        rig.dueRegister("cycle 63", 0, 63);
        rig.read(1, Rig.POSITION).start().steps(1);
        rig.dueRegister("12 later", 1, 256 + 11);
    }

    private static void positionIsNotWritten() {
        Rig rig = new Rig().write(Rig.POSITION, 0x0505).read(0, Rig.POSITION).read(1, Rig.POSITION + 1)
            .read(2, Rig.POSITION + 2).start().steps(4);
        rig.dueRegister("as before", 0, 16);
        rig.dueRegister("odd", 1, 0);
        rig.dueRegister("beside", 2, 0);
    }

    private static void busRequestBit() {
        int[][] words = {{0x0100, 1}, {0xFFFF, 1}, {0x01FF, 1}, {0xFEFF, 0}, {0x0000, 0}, {0x0001, 0}, {0x8000, 0}};
        for (int[] one : words) {
            for (int before = 0; before <= 256; before += 256) {
                Rig rig = new Rig().write(Rig.BUSREQ, before).write(Rig.BUSREQ, one[0]).start().steps(2);
                rig.dueRegister("written " + one[0], 16, 16 + 8 * one[1]);
            }
        }
    }

    private static void busRequestRead() {
        Rig rig = new Rig().read(0, Rig.BUSREQ).write(Rig.BUSREQ, 256).read(1, Rig.BUSREQ).write(Rig.RESET, 256)
            .read(2, Rig.BUSREQ).write(Rig.BUSREQ, 0).read(3, Rig.BUSREQ).read(4, Rig.BUSREQ + 1).start().steps(8);
        rig.dueRegister("in RESET, not HELD", 0, 256);
        rig.dueRegister("in RESET, HELD", 1, 0);
        rig.dueRegister("HELD", 2, 0);
        rig.dueRegister("it runs", 3, 256);
        rig.dueRegister("odd", 4, 0);
    }

    private static void resetBit() {
        int[][] words = {{0x0100, 0}, {0xFFFF, 0}, {0x01FF, 0}, {0xFEFF, 1}, {0x0000, 1}, {0x0001, 1}, {0x8000, 1}};
        for (int[] one : words) {
            for (int before = 0; before <= 256; before += 256) {
                Rig rig = new Rig().write(Rig.RESET, before).write(Rig.RESET, one[0]).start().steps(2);
                rig.dueRegister("written " + one[0], 16, 16 * one[1]);
            }
        }
    }

    /** A = 5, B = 5, H = 5, Z, interrupts let in, HALTED: 7 + 4 + 4 + 4 + 4 + 7 + 4 cycles. */
    private static Rig busy() {
        return new Rig().seed(0, 0x3E, 1, 0x3D, 0x3E, 5, 0x47, 0x67, 0xFB, 0x76)
            .write(Rig.RESET, 256).put(Rig.NOP, Rig.NOP, Rig.NOP, Rig.NOP, Rig.NOP);
    }

    private static void dueBusy(String what, Rig rig, int more) {
        rig.dueRegister(what + ": A", 12, 5);
        rig.dueRegister(what + ": B", 13, 5);
        rig.dueRegister(what + ": H", 14, 5);
        rig.dueRegister(what + ": PC", 15, 9);
        rig.dueRegister(what + ": Z, HALTED, lets in", 16, 1 + 2 + 4 + more);
    }

    private static void outWhenNotIn() {
        Rig rig = busy().write(Rig.RESET, 256).start().steps(6);
        dueBusy("before", rig, 0);
        rig.steps(1);
        dueBusy("nothing changes", rig, 0);
        // What it owes stays, too: 16 given, two of 13 done.
        rig = new Rig().seed(0, 0x3A, 9, 0, 0x3A, 9, 0, 0x3A, 9, 0, 0x3A, 9, 0).write(Rig.RESET, 256)
            .write(Rig.RESET, 256).start().steps(2);
        rig.dueRegister("32 given: three are 39", 15, 9);
    }

    private static void inWhenIn() {
        Rig rig = busy().write(Rig.RESET, 0).write(Rig.RESET, 0).start().steps(8);
        dueBusy("in RESET twice", rig, 16);
        TwinConsole x = new Rig().write(Rig.RESET, 0).start().steps(1).x;
        Check.due("in RESET from the first", x.register(16), 16);
    }

    private static void allBecomesZero() {
        Rig rig = busy().write(Rig.BUSREQ, 256).write(Rig.RESET, 0).write(Rig.RESET, 256).start().steps(8);
        dueBusy("in RESET", rig, 8 + 16);
        rig.steps(1);
        for (int r = 12; r < 16; r++) {
            rig.dueRegister("all is 0", r, 0);
        }
        rig.dueRegister("HELD alone", 16, 8);
        rig.dueMemory("its RAM stays", 768, 0x3E3E);
        rig.dueMemory("its RAM stays", 776, 0x7676);
    }

    private static void whatItOwesBecomesZero() {
        Rig rig = new Rig().seed(0, 0, 0, 0, 0, 0x3A, 9, 0).write(Rig.RESET, 256).put(Rig.NOP).write(Rig.RESET, 0)
            .write(Rig.RESET, 256).start().steps(3);
        rig.dueRegister("20 given, 29 done: 9 owed", 15, 7);
        rig.steps(1);
        rig.dueRegister("16 given, none owed", 15, 4);
    }

    private static void heldItStays() {
        Rig rig = new Rig().write(Rig.BUSREQ, 256).write(Rig.RESET, 256).put(Rig.NOP).write(Rig.BUSREQ, 0)
            .start().steps(1);
        rig.dueRegister("HELD in RESET", 16, 24);
        rig.steps(2);
        rig.dueRegister("HELD", 16, 8);
        rig.dueRegister("nothing done", 15, 0);
        rig.steps(1);
        rig.dueRegister("let go: 16 cycles", 15, 4);
        rig = new Rig().write(Rig.RESET, 256).write(Rig.BUSREQ, 256).write(Rig.RESET, 0).start().steps(3);
        rig.dueRegister("HELD as it is put in", 16, 24);
    }

    private static void resetReadsZero() {
        Rig rig = new Rig().put(0x70FF, 0x72FF).read(0, Rig.RESET).write(Rig.RESET, 0xFFFF).read(1, Rig.RESET)
            .start().steps(5);
        rig.dueRegister("in RESET", 0, 0xFFFF0000);
        rig.dueRegister("out of it", 1, 0xFFFF0000);
    }

    private static void oddAddresses() {
        int[] odd = {1, 129, 511, 513, 639, 769, 895, 1025, 1029, 1033, 1041, 1045, 1049, 65535};
        for (int address : odd) {
            Rig rig = new Rig().write(512, 0x1111).write(638, 0x2222).write(768, 0x3333).write(894, 0x4444)
                .write(address, 0xFFFF).read(0, address).start().steps(6);
            rig.dueRegister("0 at " + address, 0, 0);
            rig.dueMemory("nothing written", 128, 0x31FC);
            rig.dueMemory("nothing written", 512, 0x1111);
            rig.dueMemory("nothing written", 638, 0x2222);
            rig.dueMemory("nothing written", 768, 0x3333);
            rig.dueMemory("nothing written", 894, 0x4444);
            rig.dueRegister("the second is told nothing", 16, 16);
            rig.dueVideo("DATA is told nothing", 4, 0, 0);
            rig.dueVideo("CONTROL is told nothing", 4, 2, 0);
        }
    }

    private static void otherAddresses() {
        for (int address = 640; address < 65536; address += address < 1200 ? 2 : 998) {
            boolean seconds = address >= 768 && address < 896;
            boolean port = address >= 1024 && address <= 1048 && address % 4 == 0 && address != 1036;
            if (seconds || port) {
                continue;
            }
            Rig rig = new Rig().put(0x70FF).write(address, 0xFFFF).read(0, address).start().steps(3);
            rig.dueRegister("0 at " + address, 0, 0xFFFF0000);
            rig.dueRegister("the second is told nothing", 16, 16);
            rig.dueVideo("DATA is told nothing", 4, 0, 0);
            rig.dueVideo("CONTROL is told nothing", 4, 2, 0);
            rig.dueMemory("nothing in RAM", 512 + address % 128, 0);
            rig.dueMemory("nothing in the second's RAM", 768 + address % 128, 0);
        }
    }

    private static void quietInstructions() {
        Rig rig = new Rig().write(Rig.CONTROL, 0x4000).jump(Rig.CONTROL, 0).start().steps(7);
        rig.dueRegister("at CONTROL", 9, Rig.CONTROL);
        rig.dueStep("0 is read", 34);
        rig.dueVideo("a word is waited for still", 4, 2, 1);
        rig = new Rig().vram(0, 0x7005).control(0, 0).jump(Rig.DATA, 0).start().steps(12);
        rig.dueRegister("at DATA", 9, Rig.DATA);
        rig.dueStep("0 is read, not VRAM's word", 34);
        rig.dueVideo("ADDRESS stays", 4, 0, 0);
        // The second's RAM holds 0x7070 for the main one, but not while the second runs.
        rig = new Rig().jump(770, 0).seed(0, 0x76, 0, 0x70).start().steps(6);
        rig.dueStep("in RESET", 4);
        rig = new Rig().write(Rig.RESET, 256).jump(770, 0).seed(0, 0x76, 0, 0x70).start().steps(7);
        rig.dueStep("0 is read while the second runs", 34);
    }

    private static void quietStack() {
        Rig rig = new Rig().stackAt(Rig.CONTROL).write(Rig.CONTROL, 0x4000).put(Rig.RTE).start().steps(5);
        rig.dueRegister("0 read at CONTROL", 10, 0);
        rig.dueRegister("0 read at POSITION", 9, 0);
        rig.dueVideo("a word is waited for still", 4, 2, 1);
        rig = new Rig().vram(0, 0x0705).control(0, 0).stackAt(Rig.DATA).put(Rig.RTE).start().steps(10);
        rig.dueRegister("0 read at DATA", 10, 0);
        rig.dueVideo("ADDRESS stays", 4, 0, 0);
    }
}
