/** Promise 7: memory. */
public final class MemoryTest {
    private MemoryTest() {
    }

    public static void main(String[] args) {
        Check.that("0 when it is not 0 .. 65535.", MemoryTest::notAnAddress);
        Check.that("The word on the main bus at an address", MemoryTest::everyRegion);
        Check.that("Other addresses, odd ones: 0 is read", MemoryTest::oddAddresses);
        Check.that("read quietly (0 from 1024 on)", MemoryTest::portsReadZero);
        Check.that("and does nothing else", MemoryTest::doesNothingElse);
        Check.that("(this as above: 0 unless it is HELD or in RESET)", MemoryTest::secondsRam);
        Check.end();
    }

    private static void notAnAddress() {
        Rig rig = new Rig().at(0, 0x1234).at(510, 0x4321);
        int[] wrong = {-1, -2, -65536, -65026, 65536, 65538, 65536 + 510, 131072, Integer.MIN_VALUE, Integer.MAX_VALUE};
        for (int address : wrong) {
            rig.dueMemory("none", address, 0);
        }
        rig.dueMemory("the first", 0, 0x1234);
        rig.dueMemory("the last", 65535, 0);
        rig.dueMemory("the last even one", 65534, 0);
    }

    private static void everyRegion() {
        Rig rig = new Rig().at(0, 0x1111).at(510, 0x2222).write(512, 0x3333).write(638, 0x4444).write(768, 0x5500)
            .write(894, 0x6600).go();
        rig.dueMemory("ROM's first", 0, 0x1111);
        rig.dueMemory("ROM's last", 510, 0x2222);
        rig.dueMemory("RAM's first", 512, 0x3333);
        rig.dueMemory("RAM's last", 638, 0x4444);
        rig.dueMemory("behind RAM", 640, 0);
        rig.dueMemory("before the second's RAM", 766, 0);
        rig.dueMemory("its first", 768, 0x5555);
        rig.dueMemory("its last even one", 894, 0x6666);
        rig.dueMemory("behind it", 896, 0);
        rig.dueMemory("before the ports", 1022, 0);
    }

    private static void oddAddresses() {
        Rig rig = new Rig().at(0, 0x1111).at(510, 0x2222).write(512, 0x3333).write(638, 0x4444).seed(1, 0x55).go();
        int[] odd = {1, 3, 509, 511, 513, 637, 639, 769, 895, 65535};
        for (int address : odd) {
            rig.dueMemory("odd", address, 0);
        }
    }

    private static void portsReadZero() {
        Rig rig = new Rig().vram(0, 0x1111).control(0, 0).write(Rig.PAD, 64);
        rig.x.pad(255);
        rig.draw();
        for (int address = 1024; address < 1100; address++) {
            rig.dueMemory("a port", address, 0);
        }
    }

    private static void doesNothingElse() {
        Rig rig = new Rig().vram(0, 0x1111, 0x2222).control(0, 0).write(Rig.CONTROL, 0x4002).go();
        rig.dueMemory("DATA", Rig.DATA, 0);
        rig.dueMemory("CONTROL", Rig.CONTROL, 0);
        rig.dueVideo("a word is waited for still", 4, 2, 1);
        rig.dueVideo("ADDRESS", 4, 0, 2);
        rig.dueVideo("CODE", 4, 1, 1);
    }

    private static void secondsRam() {
        Rig rig = new Rig().write(Rig.RESET, 256).write(Rig.BUSREQ, 256).write(Rig.BUSREQ, 0).write(Rig.RESET, 0)
            .seed(0, 0x76, 0, 0x99).start();
        rig.dueMemory("in RESET", 770, 0x9999);
        rig.steps(1);
        rig.dueMemory("it runs", 770, 0);
        rig.steps(1);
        rig.dueMemory("HELD", 770, 0x9999);
        rig.steps(1);
        rig.dueMemory("let go", 770, 0);
        rig.steps(1);
        rig.dueMemory("in RESET again", 770, 0x9999);
    }
}
