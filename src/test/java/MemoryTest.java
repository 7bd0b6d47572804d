/** Promise 7: memory, and the main bus that instructions read and write. */
public final class MemoryTest {
    private MemoryTest() {
    }

    public static void main(String[] args) {
        outOfRange();
        everyEvenAddress();
        oddAddresses();
        romIsNotWritten();
        secondsMemory();
        quietReadsDoNothing();
        busRequest();
        Check.end();
    }

    private static void outOfRange() {
        Rig rig = new Rig().at(0, 0x1234);
        int[] wrong = {-1, -2, 65536, 65538, Integer.MIN_VALUE, Integer.MAX_VALUE};
        for (int address : wrong) {
            rig.dueMemory("none", address, 0);
        }
        rig.dueMemory("the first", 0, 0x1234);
        rig.dueMemory("the last", 65534, 0);
    }

    /** What is written at an address and read there again, and where memory(..) shows it. */
    private static void everyEvenAddress() {
        for (int address = 512; address < 66000; address += address < 1200 ? 2 : 998) {
            if (address >= 1024 && address <= 1048 && address % 4 == 0 && address != 1036 || address > 65535) {
                continue;
            }
            Rig rig = new Rig().write(address, 0x8765).read(0, address).start().steps(2);
            int want = address < 640 ? 0x8765 : address >= 768 && address < 896 ? 0x8787 : 0;
            rig.dueRegister("word at " + address, 0, want);
            rig.dueMemory("word", address, want);
            if (want != 0) {
                rig.dueMemory("the word before", address - 2, address == 512 ? rig.x.memory(510) : 0);
                rig.dueMemory("the word behind", address + 2, 0);
            }
        }
    }

    private static void oddAddresses() {
        int[] odd = {1, 129, 511, 513, 639, 769, 895, 1025, 1029, 1033, 1041, 1045, 1049, 65535};
        for (int address : odd) {
            Rig rig = new Rig().write(512, 0x1111).write(638, 0x2222).write(768, 0x3333).write(894, 0x4444)
                .write(address, 0xFFFF).read(0, address).start().steps(6);
            rig.dueRegister("0 at " + address, 0, 0);
            rig.dueMemory("0", address, 0);
            rig.dueMemory("nothing written", 512, 0x1111);
            rig.dueMemory("nothing written", 638, 0x2222);
            rig.dueMemory("nothing written", 768, 0x3333);
            rig.dueMemory("nothing written", 894, 0x4444);
            rig.dueRegister("the second is told nothing", 16, 16);
            rig.dueVideo("DATA is told nothing", 4, 0, 0);
            rig.dueVideo("CONTROL is told nothing", 4, 2, 0);
        }
    }

    private static void romIsNotWritten() {
        Rig rig = new Rig().at(0, 7).write(0, 1).write(510, 1).write(2, 1).start().steps(3);
        rig.dueMemory("word 0", 0, 7);
        rig.dueMemory("word 1", 2, 638);
        rig.dueMemory("word 255", 510, 0);
    }

    private static void secondsMemory() {
        Rig rig = new Rig();
        for (int k = 0; k < 128; k++) {
            rig.x.seed(k, 128 + k);
        }
        for (int k = 0; k < 128; k++) {
            rig.dueMemory("even bytes alone, in both halves", 768 + k, k % 2 == 0 ? (128 + k) * 257 : 0);
        }
        rig = new Rig();
        rig.x.seed(0, 0x76);
        rig.x.seed(2, 0x99);
        rig.write(770, 0x1234).write(Rig.RESET, 256).write(770, 0x5678).read(0, 770)
            .write(Rig.BUSREQ, 256).read(1, 770).write(770, 0xABCD).read(2, 770).write(Rig.BUSREQ, 0).read(3, 770)
            .start();
        rig.dueMemory("in RESET", 770, 0x9999);
        rig.steps(1);
        rig.dueMemory("the high half is written", 770, 0x1212);
        rig.dueMemory("no other byte", 768, 0x7676);
        rig.dueMemory("no other byte", 772, 0);
        rig.steps(1);
        rig.dueMemory("0 while it runs", 770, 0);
        rig.steps(2);
        rig.dueRegister("0 while it runs", 0, 0);
        rig.steps(2);
        rig.dueRegister("HELD: nothing was written while it ran", 1, 0x1212);
        rig.dueMemory("HELD", 770, 0x1212);
        rig.steps(2);
        rig.dueRegister("HELD: written", 2, 0xFFFFABAB & 0xFFFF);
        rig.steps(2);
        rig.dueRegister("0 once let go", 3, 0);
        rig.dueMemory("0 once let go", 770, 0);
        rig.dueMemory("behind it", 896, 0);
        rig.dueMemory("before it", 766, 0);
    }

    private static void quietReadsDoNothing() {
        Rig rig = new Rig().register(14, 2).vram(0, 0x1111, 0x2222).control(0, 0).write(Rig.CONTROL, 0x4002)
            .go();
        rig.dueMemory("DATA", Rig.DATA, 0);
        rig.dueMemory("CONTROL", Rig.CONTROL, 0);
        rig.dueMemory("POSITION", Rig.POSITION, 0);
        rig.dueMemory("BUSREQ", Rig.BUSREQ, 0);
        rig.dueMemory("PAD", Rig.PAD, 0);
        rig.dueVideo("a word is waited for still", 4, 2, 1);
        rig.dueVideo("ADDRESS", 4, 0, 2);
    }

    private static void busRequest() {
        Rig rig = new Rig().read(0, Rig.BUSREQ).write(Rig.BUSREQ, 256).read(1, Rig.BUSREQ).write(Rig.BUSREQ, 0xFEFF)
            .read(2, Rig.BUSREQ).write(Rig.RESET, 256).read(3, Rig.BUSREQ).start().steps(2);
        rig.dueRegister("not HELD", 0, 256);
        rig.dueRegister("HELD, in RESET", 16, 24);
        rig.steps(1);
        rig.dueRegister("HELD", 1, 0);
        rig.steps(2);
        rig.dueRegister("not HELD", 2, 256);
        rig.dueRegister("bit 8 alone counts", 16, 16);
        rig.steps(2);
        rig.dueRegister("not HELD", 3, 256);
    }
}
