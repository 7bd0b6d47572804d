/** Promise 4: pad, and how the main bus shows it. */
public final class PadTest {
    private PadTest() {
    }

    public static void main(String[] args) {
        for (int bits = 0; bits < 256; bits++) {
            bothHalves(bits, bits);
        }
        bothHalves(-1, 255);
        bothHalves(0x100, 0);
        bothHalves(0x7FFFFF5A, 0x5A);
        bitSixAloneIsWritten();
        Check.end();
    }

    private static void bothHalves(int set, int bits) {
        Rig rig = new Rig().read(0, Rig.PAD).write(Rig.PAD, 64).read(1, Rig.PAD)
            .write(Rig.PAD, 0).read(2, Rig.PAD);
        rig.x.pad(set);
        rig.go();
        int low = bits % 4 + (bits >= 128 ? 32 : 0) + (bits / 64 % 2 == 1 ? 16 : 0);
        rig.dueRegister("pad(" + set + ") before a write", 0, low);
        rig.dueRegister("pad(" + set + ") with 1", 1, 64 + bits % 64);
        rig.dueRegister("pad(" + set + ") with 0", 2, low);
        rig.dueMemory("read quietly", Rig.PAD, 0);
    }

    private static void bitSixAloneIsWritten() {
        Rig rig = new Rig().write(Rig.PAD, 0xFFBF).read(0, Rig.PAD).write(Rig.PAD, 0xFFFF).read(1, Rig.PAD)
            .write(Rig.PAD + 1, 0).write(Rig.PAD + 2, 0).write(Rig.PAD - 2, 0).read(2, Rig.PAD)
            .read(3, Rig.PAD + 1).read(4, Rig.PAD - 1);
        rig.x.pad(0);
        rig.go();
        rig.dueRegister("bit 6 is 0", 0, 0);
        rig.dueRegister("bit 6 is 1", 1, 64);
        rig.dueRegister("the neighbours write nothing", 2, 64);
        rig.dueRegister("odd", 3, 0);
        rig.dueRegister("odd", 4, 0);
        rig.x.pad(4);
        rig.x.pad(8);
        rig.read(0, Rig.PAD).go();
        rig.dueRegister("the last pad counts", 0, 64 + 8);
    }
}
