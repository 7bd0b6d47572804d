/** A machine with a program that is written word by word from address 128 on. */
final class Rig {
    static final int DATA = 1024;
    static final int CONTROL = 1028;
    static final int POSITION = 1032;
    static final int BUSREQ = 1040;
    static final int RESET = 1044;
    static final int PAD = 1048;
    static final int NOP = 0x4E71;
    static final int RTE = 0x4E73;
    static final int STOP = 0x4E72;
    static final int LOOP = 0x60FE;
    static final int VRAM = 1;
    static final int CRAM = 3;
    static final int VSRAM = 5;

    final TwinConsole x = new TwinConsole();
    private int next = 64;

    /** Stack at 638, start at 128, vector 4 at 400, level 4 at 420, level 6 at 440. */
    Rig() {
        x.rom(1, 638);
        x.rom(3, 128);
        x.rom(9, 400);
        x.rom(57, 420);
        x.rom(61, 440);
    }

    Rig put(int... words) {
        for (int w : words) {
            Check.due("the program's room", x.rom(next, w), true);
            next++;
        }
        return this;
    }

    /** The byte address of the next word that is put. */
    int here() {
        return 2 * next;
    }

    Rig write(int address, int w) {
        return put(0x31FC, w, address);
    }

    Rig read(int n, int address) {
        return put(0x3038 + 512 * n, address);
    }

    Rig register(int r, int v) {
        return write(CONTROL, 0x8000 + 256 * r + v);
    }

    /** The two words that set ADDRESS and CODE. */
    Rig control(int address, int code) {
        write(CONTROL, (code & 3) << 14 | address & 0x3FFF);
        return write(CONTROL, code >> 2 << 4 | address >> 14);
    }

    Rig data(int... words) {
        for (int w : words) {
            write(DATA, w);
        }
        return this;
    }

    /** Words of VRAM from word k on; register 14 becomes 2. */
    Rig vram(int k, int... words) {
        return register(14, 2).control(2 * k, VRAM).data(words);
    }

    /** Three steps that make S any word; D7 holds it then. */
    Rig stackAt(int s) {
        return write(600, s).read(7, 600).put(0x4E67);
    }

    /** Six steps that go to any address with any MASK and flags; S is 638 then. */
    Rig jump(int target, int maskAndFlags) {
        return write(632, maskAndFlags).write(636, target).stackAt(632).put(RTE);
    }

    /** Words at any address of ROM. */
    Rig at(int address, int... words) {
        for (int k = 0; k < words.length; k++) {
            x.rom(address / 2 + k, words[k]);
        }
        return this;
    }

    /** Bytes of the second's RAM. */
    Rig seed(int at, int... bytes) {
        for (int k = 0; k < bytes.length; k++) {
            x.seed(at + k, bytes[k]);
        }
        return this;
    }

    /** Takes the second out of RESET (16 cycles are given); then there are nothing but steps of four cycles. */
    Rig out() {
        return write(RESET, 256).put(STOP, 0x700).start().steps(1);
    }

    /** The registers for a move; kind is that of register 15's two high bits, ADDRESS grows by 2. */
    Rig moving(int length, int source, int kind) {
        return register(1, 16).register(11, length & 255).register(12, length >> 8)
            .register(9, source & 255).register(10, source >> 8).register(15, kind << 6).register(14, 2);
    }

    /** Starts from 128, without a step. */
    Rig start() {
        x.reset();
        next = 64;
        return this;
    }

    Rig steps(int n) {
        for (int k = 0; k < n; k++) {
            x.step();
        }
        return this;
    }

    /** Steps from so many cycles since the object was made to so many. */
    void upTo(int done, int cycles) {
        int rest = cycles - done;
        while (rest > 0) {
            rest -= x.step();
        }
        Check.due("the test's own cycles", rest, 0);
    }

    /** Does the whole program; then the next one may be put. */
    Rig go() {
        int end = here();
        put(LOOP);
        start();
        for (int k = 0; k < 20 && (x.register(9) != end || x.register(11) != 0); k++) {
            x.run(200);
        }
        Check.due("the program's end", x.register(9), end);
        return this;
    }

    /** Does the program, then shows every line anew. */
    Rig draw() {
        go();
        x.run(800);
        return this;
    }

    void dueRegister(String what, int r, int want) {
        Check.due(what + ": register(" + r + ")", x.register(r), want);
    }

    void dueVideo(String what, int kind, int k, int want) {
        Check.due(what + ": video(" + kind + ", " + k + ")", x.video(kind, k), want);
    }

    void dueMemory(String what, int address, int want) {
        Check.due(what + ": memory(" + address + ")", x.memory(address), want);
    }

    void dueStep(String what, int want) {
        Check.due(what + ": step()", x.step(), want);
    }

    /** A line as sixteen hexadecimal digits. */
    void dueLine(String what, int y, String want) {
        StringBuilder got = new StringBuilder();
        for (int k = 0; k < 16; k++) {
            got.append(Integer.toHexString(x.pixel(k, y)));
        }
        Check.due(what + ": line " + y + " is " + got + ", not " + want, got.toString().equals(want), true);
    }
}
