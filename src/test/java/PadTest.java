/** Promise 4: pad, and how the main bus shows it. */
public final class PadTest {
    private PadTest() {
    }

    public static void main(String[] args) {
        Check.that("with that 1: bits 5 .. 0 of the pad as it was set, with 0: bit 5 is bit 7 of the pad, bit 4 its bit 6,"
            + " bits 3, 2 are 0, 1 and 0 as set.", PadTest::everyPad);
        Check.that("The pad is set: its low eight bits.", PadTest::lowEightBits);
        Check.that("bit 6 what was last written to its bit 6", PadTest::bitSixAloneIsWritten);
        Check.that("read: bits 0 .. 6", PadTest::noBitAboveSix);
        Check.that("The pad is set (the last one counts)", PadTest::lastPadCounts);
        Check.that("Other addresses, odd ones: 0 is read, nothing written. (beside the PAD)", PadTest::neighbours);
        Check.that("0 from 1024 on (the PAD)", PadTest::readQuietly);
        Check.end();
    }

    private static Rig reader() {
        return new Rig().read(0, Rig.PAD).write(Rig.PAD, 64).read(1, Rig.PAD).write(Rig.PAD, 0).read(2, Rig.PAD);
    }

    private static void bothHalves(int set, int bits) {
        Rig rig = reader();
        rig.x.pad(set);
        rig.go();
        int low = bits % 4 + (bits >= 128 ? 32 : 0) + (bits / 64 % 2 == 1 ? 16 : 0);
        rig.dueRegister("pad(" + set + ") before a write", 0, low);
        rig.dueRegister("pad(" + set + ") with 1", 1, 64 + bits % 64);
        rig.dueRegister("pad(" + set + ") with 0", 2, low);
    }

    private static void everyPad() {
        for (int bits = 0; bits < 256; bits++) {
            bothHalves(bits, bits);
        }
    }

    private static void lowEightBits() {
        bothHalves(-1, 255);
        bothHalves(256, 0);
        bothHalves(257, 1);
        bothHalves(-256, 0);
        bothHalves(0x7FFFFF5A, 0x5A);
        bothHalves(Integer.MIN_VALUE, 0);
    }

    private static void bitSixAloneIsWritten() {
        Rig rig = new Rig().write(Rig.PAD, 0xFFBF).read(0, Rig.PAD).write(Rig.PAD, 0x0040).read(1, Rig.PAD)
            .write(Rig.PAD, 0xFFFF).read(2, Rig.PAD).write(Rig.PAD, 0x4000).read(3, Rig.PAD);
        rig.x.pad(0);
        rig.go();
        rig.dueRegister("all but bit 6", 0, 0);
        rig.dueRegister("bit 6 alone", 1, 64);
        rig.dueRegister("all bits: none of the others is kept", 2, 64);
        rig.dueRegister("bit 14 is not bit 6", 3, 0);
    }

    private static void noBitAboveSix() {
        Rig rig = reader();
        rig.x.pad(255);
        rig.go();
        rig.dueRegister("with 0", 0, 0x33);
        rig.dueRegister("with 1", 1, 0x7F);
    }

    private static void lastPadCounts() {
        Rig rig = reader();
        rig.x.pad(255);
        rig.x.pad(8);
        rig.go();
        rig.dueRegister("with 1", 1, 64 + 8);
        rig.dueRegister("with 0", 2, 0);
        rig.x.pad(0x82);
        rig.read(3, Rig.PAD).go();
        rig.dueRegister("bit 6 stays as the pad is set", 3, 32 + 2);
    }

    private static void neighbours() {
        Rig rig = new Rig().write(Rig.PAD, 64).write(Rig.PAD + 1, 0).write(Rig.PAD + 2, 0).write(Rig.PAD - 1, 0)
            .write(Rig.PAD - 2, 0).read(0, Rig.PAD).read(1, Rig.PAD + 1).read(2, Rig.PAD + 2).read(3, Rig.PAD - 1)
            .read(4, Rig.PAD - 2);
        rig.x.pad(255);
        rig.go();
        rig.dueRegister("bit 6 stays", 0, 127);
        for (int n = 1; n < 5; n++) {
            rig.dueRegister("beside it", n, 0);
        }
    }

    private static void readQuietly() {
        Rig rig = new Rig().write(Rig.PAD, 64);
        rig.x.pad(255);
        rig.go();
        rig.dueMemory("quietly", Rig.PAD, 0);
    }
}
