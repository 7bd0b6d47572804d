/**
 * A game machine: a main processor, a second one with a memory of its own, and a picture unit.
 * The numbered promises of the document say what each call answers.
 */
public final class TwinConsole {
    private static final int MOST_CYCLES = 800;
    private static final int WAITING_CYCLES = 4;
    private static final int MOVED_WORD_CYCLES = 2;

    private final int[] romWords;
    private final SecondProcessor second;
    private final PictureUnit picture;
    private final Painter painter;
    private final Beam beam;
    private final Bus bus;
    private final MainProcessor main;

    public TwinConsole() {
        romWords = new int[256];
        second = new SecondProcessor(romWords);
        picture = new PictureUnit();
        painter = new Painter(picture);
        beam = new Beam(picture, painter, second);
        bus = new Bus(romWords, second, picture, painter, beam);
        main = new MainProcessor(bus);
    }

    public boolean rom(int k, int w) {
        if (k < 0 || k >= romWords.length) {
            return false;
        }
        romWords[k] = w & 0xFFFF;
        return true;
    }

    public void reset() {
        main.startAgain();
    }

    public void pad(int bits) {
        bus.padKeys = bits & 255;
    }

    public int step() {
        return oneStep();
    }

    public int run(int cycles) {
        if (cycles < 0 || cycles > MOST_CYCLES) {
            return -1;
        }
        int done = 0;
        for (int k = 0; k < MOST_CYCLES && done < cycles; k++) {
            done += oneStep();
        }
        return done;
    }

    public int memory(int address) {
        if (address < 0 || address > 0xFFFF) {
            return 0;
        }
        return bus.readQuietly(address);
    }

    public int register(int r) {
        if (r >= 0 && r < 8) {
            return main.d[r];
        }
        switch (r) {
            case 8:
                return main.s;
            case 9:
                return main.pc;
            case 10:
                return main.maskAndFlags();
            case 11:
                return (main.waits ? 1 : 0) + (picture.movesFromMemory() ? 2 : 0);
            case 12:
                return second.a;
            case 13:
                return second.b;
            case 14:
                return second.h;
            case 15:
                return second.pc;
            case 16:
                return second.stateBits();
            default:
                return -1;
        }
    }

    public boolean seed(int k, int v) {
        if (k < 0 || k >= second.ram.length) {
            return false;
        }
        second.ram[k] = v & 255;
        return true;
    }

    public int video(int kind, int k) {
        switch (kind) {
            case 0:
                return k >= 0 && k < 512 ? picture.vramWord(k) : -1;
            case 1:
                return elementOrNone(picture.cram, k);
            case 2:
                return elementOrNone(picture.vsram, k);
            case 3:
                return elementOrNone(picture.registers, k);
            case 4:
                return portState(k);
            default:
                return -1;
        }
    }

    public int pixel(int x, int y) {
        if (x < 0 || x >= Painter.WIDTH || y < 0 || y >= Painter.HEIGHT) {
            return -1;
        }
        return painter.screen[y * Painter.WIDTH + x];
    }

    private static int elementOrNone(int[] row, int k) {
        return k >= 0 && k < row.length ? row[k] : -1;
    }

    private int portState(int k) {
        switch (k) {
            case 0:
                return picture.address;
            case 1:
                return picture.code;
            case 2:
                return picture.wordWaitedFor ? 1 : 0;
            case 3:
                return (beam.pending4 ? 4 : 0) + (beam.pending6 ? 6 : 0);
            default:
                return -1;
        }
    }

    private int oneStep() {
        int cycles;
        int late = 0;
        int level = beam.highestPending(main.mask);
        if (picture.movesFromMemory()) {
            bus.moveWord();
            cycles = MOVED_WORD_CYCLES;
        } else if (level != 0) {
            beam.takePending(level);
            cycles = main.interrupt(level);
        } else if (main.waits) {
            cycles = WAITING_CYCLES;
        } else {
            late = second.takeMainLate();
            cycles = main.instruct();
        }
        second.give(cycles);
        beam.goOn(cycles + late);
        return cycles + late;
    }

    /** What the main processor sees behind an address. */
    private static final class Bus {
        private static final int RAM_START = 512;
        private static final int RAM_END = 640;
        private static final int SECOND_START = 768;
        private static final int SECOND_END = 896;
        private static final int DATA = 1024;
        private static final int CONTROL = 1028;
        private static final int POSITION = 1032;
        private static final int BUSREQ = 1040;
        private static final int RESET = 1044;
        private static final int PAD = 1048;
        private static final int BIT_8 = 256;
        private static final int PAD_SELECT = 64;

        private final int[] romWords;
        private final int[] ram;
        private final SecondProcessor second;
        private final PictureUnit picture;
        private final Painter painter;
        private final Beam beam;
        private int padKeys;
        private int padSelect;

        Bus(int[] romWords, SecondProcessor second, PictureUnit picture, Painter painter, Beam beam) {
            this.romWords = romWords;
            this.second = second;
            this.picture = picture;
            this.painter = painter;
            this.beam = beam;
            ram = new int[64];
        }

        int readQuietly(int address) {
            if ((address & 1) != 0 || address < 0) {
                return 0;
            }
            if (address < RAM_START) {
                return romWords[address >> 1];
            }
            if (address < RAM_END) {
                return ram[(address - RAM_START) >> 1];
            }
            if (address >= SECOND_START && address < SECOND_END && second.stands()) {
                return second.ram[address - SECOND_START] * 257;
            }
            return 0;
        }

        int read(int address) {
            switch (address) {
                case DATA:
                    return picture.readData();
                case CONTROL:
                    return readStatus();
                case POSITION:
                    return beam.line * 256 + beam.cycle;
                case BUSREQ:
                    return second.held ? 0 : BIT_8;
                case PAD:
                    return readPad();
                default:
                    return readQuietly(address);
            }
        }

        void write(int address, int w) {
            switch (address) {
                case DATA:
                    picture.writeData(w);
                    break;
                case CONTROL:
                    picture.writeControl(w);
                    break;
                case BUSREQ:
                    second.held = (w & BIT_8) != 0;
                    break;
                case RESET:
                    second.setReset((w & BIT_8) == 0);
                    break;
                case PAD:
                    padSelect = w & PAD_SELECT;
                    break;
                default:
                    writeMemory(address, w);
                    break;
            }
        }

        void moveWord() {
            int from = picture.source;
            picture.takeMovedWord(from < SECOND_START ? readQuietly(from) : 0);
        }

        private void writeMemory(int address, int w) {
            if ((address & 1) != 0) {
                return;
            }
            if (address >= RAM_START && address < RAM_END) {
                ram[(address - RAM_START) >> 1] = w;
            } else if (address >= SECOND_START && address < SECOND_END && second.stands()) {
                second.ram[address - SECOND_START] = w >> 8;
            }
        }

        private int readStatus() {
            picture.wordWaitedFor = false;
            int status = (picture.movesFromMemory() ? 2 : 0)
                + (beam.line >= Painter.HEIGHT ? 4 : 0)
                + (beam.pending6 ? 8 : 0)
                + (painter.collided ? 32 : 0)
                + (painter.tooMany ? 64 : 0);
            painter.collided = false;
            painter.tooMany = false;
            return status;
        }

        private int readPad() {
            if (padSelect != 0) {
                return padSelect | (padKeys & 63);
            }
            return ((padKeys >> 2) & 48) | (padKeys & 3);
        }
    }

    /** The main processor; its instructions answer their cycles. */
    private static final class MainProcessor {
        private static final int UNKNOWN = 0;
        private static final int UNKNOWN_VECTOR = 4;
        private static final int UNKNOWN_CYCLES = 34;
        private static final int INTERRUPT_VECTOR = 24;
        private static final int INTERRUPT_CYCLES = 44;

        private final Bus bus;
        private final int[] d;
        private int s;
        private int pc;
        private int mask;
        private boolean negative;
        private boolean zero;
        private boolean overflow;
        private boolean carry;
        private boolean waits;

        MainProcessor(Bus bus) {
            this.bus = bus;
            d = new int[8];
        }

        void startAgain() {
            for (int n = 0; n < d.length; n++) {
                d[n] = 0;
            }
            setMaskAndFlags(0x700);
            s = bus.readQuietly(2);
            pc = bus.readQuietly(6);
            waits = false;
        }

        int maskAndFlags() {
            return mask * 256 + (negative ? 8 : 0) + (zero ? 4 : 0) + (overflow ? 2 : 0) + (carry ? 1 : 0);
        }

        int interrupt(int level) {
            raise(INTERRUPT_VECTOR + level);
            mask = level;
            waits = false;
            return INTERRUPT_CYCLES;
        }

        int instruct() {
            int start = pc;
            int w = nextWord();
            int cycles = UNKNOWN;
            switch (w >> 12) {
                case 3:
                    cycles = moveWord(w);
                    break;
                case 4:
                    cycles = controlMachine(w);
                    break;
                case 6:
                    cycles = branch(w);
                    break;
                case 7:
                    cycles = moveQuick(w);
                    break;
                case 11:
                    cycles = compare(w);
                    break;
                case 13:
                    cycles = add(w);
                    break;
                default:
                    break;
            }
            if (cycles == UNKNOWN) {
                pc = start;
                raise(UNKNOWN_VECTOR);
                cycles = UNKNOWN_CYCLES;
            }
            return cycles;
        }

        private void setMaskAndFlags(int w) {
            mask = (w >> 8) & 7;
            negative = (w & 8) != 0;
            zero = (w & 4) != 0;
            overflow = (w & 2) != 0;
            carry = (w & 1) != 0;
        }

        private void raise(int vector) {
            bus.write((s - 6) & 0xFFFF, maskAndFlags());
            bus.write((s - 4) & 0xFFFF, 0);
            bus.write((s - 2) & 0xFFFF, pc);
            s = (s - 6) & 0xFFFF;
            pc = bus.readQuietly(4 * vector + 2);
        }

        private int nextWord() {
            int w = bus.readQuietly(pc);
            pc = (pc + 2) & 0xFFFF;
            return w;
        }

        private void setMoveFlags(int value) {
            negative = value < 0;
            zero = value == 0;
            overflow = false;
            carry = false;
        }

        private void setReckonedFlags(int signed, boolean carried) {
            setMoveFlags((short) signed);
            overflow = signed != (short) signed;
            carry = carried;
        }

        private void setLowWord(int n, int w) {
            d[n] = (d[n] & 0xFFFF0000) | (w & 0xFFFF);
        }

        private int moveQuick(int w) {
            if ((w & 0x100) != 0) {
                return UNKNOWN;
            }
            int value = (byte) w;
            d[(w >> 9) & 7] = value;
            setMoveFlags(value);
            return 4;
        }

        private int moveWord(int w) {
            int n = (w >> 9) & 7;
            if ((w & 0x1F8) == 0) {
                load(n, d[w & 7]);
                return 4;
            }
            if ((w & 0x1FF) == 0x038) {
                load(n, bus.read(nextWord()));
                return 12;
            }
            boolean written = w == 0x31FC;
            if (!written && (w & 0xFFF8) != 0x31C0) {
                return UNKNOWN;
            }
            int value = written ? nextWord() : d[w & 7] & 0xFFFF;
            bus.write(nextWord(), value);
            setMoveFlags((short) value);
            return written ? 16 : 12;
        }

        private void load(int n, int w) {
            setLowWord(n, w);
            setMoveFlags((short) w);
        }

        private int add(int w) {
            if ((w & 0x1F8) != 0x040) {
                return UNKNOWN;
            }
            int n = (w >> 9) & 7;
            int left = d[n];
            int right = d[w & 7];
            int sum = (short) left + (short) right;
            setReckonedFlags(sum, (left & 0xFFFF) + (right & 0xFFFF) > 0xFFFF);
            setLowWord(n, sum);
            return 4;
        }

        private int compare(int w) {
            if ((w & 0x1F8) != 0x040) {
                return UNKNOWN;
            }
            int left = d[(w >> 9) & 7];
            int right = d[w & 7];
            setReckonedFlags((short) left - (short) right, (left & 0xFFFF) < (right & 0xFFFF));
            return 4;
        }

        private int branch(int w) {
            int distance = (byte) w;
            if (distance == 0) {
                return UNKNOWN;
            }
            if (!conditionHolds((w >> 8) & 15)) {
                return 8;
            }
            pc = (pc + distance) & 0xFFFF;
            return 10;
        }

        private boolean conditionHolds(int condition) {
            switch (condition) {
                case 0:
                    return true;
                case 4:
                    return !carry;
                case 5:
                    return carry;
                case 6:
                    return !zero;
                case 7:
                    return zero;
                case 10:
                    return !negative;
                case 11:
                    return negative;
                default:
                    return false;
            }
        }

        private int controlMachine(int w) {
            if ((w & 0xFFF8) == 0x4E60) {
                s = d[w & 7] & 0xFFFF;
                return 4;
            }
            switch (w) {
                case 0x4E71:
                    return 4;
                case 0x4E72:
                    setMaskAndFlags(nextWord());
                    waits = true;
                    return 4;
                case 0x4E73:
                    setMaskAndFlags(bus.readQuietly(s));
                    pc = bus.readQuietly((s + 4) & 0xFFFF);
                    s = (s + 6) & 0xFFFF;
                    return 20;
                default:
                    return UNKNOWN;
            }
        }
    }

    /** The second processor and its memory; instructions answer their cycles without those of ROM bytes. */
    private static final class SecondProcessor {
        private static final int ROM_START = 32768;
        private static final int ROM_BYTE_CYCLES = 3;
        private static final int ROM_BYTE_MAIN_CYCLES = 11;
        private static final int INTERRUPT_PC = 56;
        private static final int INTERRUPT_CYCLES = 13;
        private static final int HALTED_CYCLES = 4;

        private final int[] romWords;
        private final int[] ram;
        private int a;
        private int b;
        private int h;
        private int pc;
        private boolean zero;
        private boolean halted;
        private boolean letsIn;
        private boolean held;
        private boolean inReset;
        private int cyclesLeft;
        private int mainLate;

        SecondProcessor(int[] romWords) {
            this.romWords = romWords;
            ram = new int[128];
            inReset = true;
        }

        boolean stands() {
            return held || inReset;
        }

        int stateBits() {
            return (zero ? 1 : 0) + (halted ? 2 : 0) + (letsIn ? 4 : 0) + (held ? 8 : 0) + (inReset ? 16 : 0);
        }

        int takeMainLate() {
            int late = mainLate;
            mainLate = 0;
            return late;
        }

        void setReset(boolean on) {
            if (inReset && !on) {
                a = 0;
                b = 0;
                h = 0;
                pc = 0;
                zero = false;
                halted = false;
                letsIn = false;
                cyclesLeft = 0;
            }
            inReset = on;
        }

        void tellLine8() {
            if (stands() || !letsIn) {
                return;
            }
            h = pc & 255;
            pc = INTERRUPT_PC;
            letsIn = false;
            halted = false;
            cyclesLeft -= INTERRUPT_CYCLES;
        }

        void give(int cycles) {
            if (stands()) {
                return;
            }
            cyclesLeft += cycles;
            for (int k = 0; k < cycles && cyclesLeft > 0; k++) {
                // Not in one line: reading ROM takes cycles too, and -= would look at cyclesLeft before that.
                int cyclesOfOne = halted ? HALTED_CYCLES : instruct();
                cyclesLeft -= cyclesOfOne;
            }
        }

        private int instruct() {
            switch (nextByte()) {
                case 0x3E:
                    a = nextByte();
                    return 7;
                case 0x32:
                    writeByte(nextAddress());
                    return 13;
                case 0x3A:
                    a = readByte(nextAddress());
                    return 13;
                case 0x20:
                    return branch((byte) nextByte());
                case 0xC3:
                    pc = nextAddress();
                    return 10;
                case 0xC9:
                    pc = h;
                    return 10;
                case 0x47:
                    b = a;
                    return 4;
                case 0x78:
                    a = b;
                    return 4;
                case 0x67:
                    h = a;
                    return 4;
                case 0x3C:
                    return count(a + 1);
                case 0x80:
                    return count(a + b);
                case 0x3D:
                    return count(a - 1);
                case 0x76:
                    halted = true;
                    return 4;
                case 0xFB:
                    letsIn = true;
                    return 4;
                case 0xF3:
                    letsIn = false;
                    return 4;
                default:
                    return 4;
            }
        }

        private int count(int value) {
            a = value & 255;
            zero = a == 0;
            return 4;
        }

        private int branch(int distance) {
            if (zero) {
                return 7;
            }
            pc = (pc + distance) & 0xFFFF;
            return 12;
        }

        private int nextByte() {
            int value = readByte(pc);
            pc = (pc + 1) & 0xFFFF;
            return value;
        }

        private int nextAddress() {
            int low = nextByte();
            return nextByte() * 256 + low;
        }

        private int readByte(int address) {
            if (address < ROM_START) {
                return ram[address & 127];
            }
            cyclesLeft -= ROM_BYTE_CYCLES;
            mainLate += ROM_BYTE_MAIN_CYCLES;
            int w = romWords[(address & 511) >> 1];
            return (address & 1) == 0 ? w >> 8 : w & 255;
        }

        private void writeByte(int address) {
            if (address < ROM_START) {
                ram[address & 127] = a;
            }
        }
    }

    /** The picture unit's memories, its two ports, and its moves. */
    private static final class PictureUnit {
        private static final int MOVE_CODE = 32;
        private static final int MOVES_ALLOWED = 16;
        private static final int FILL = 2;
        private static final int COPY = 3;

        // Fills and copies go by bytes, so VRAM is held as bytes and words are joined.
        private final int[] vramBytes;
        private final int[] cram;
        private final int[] vsram;
        private final int[] registers;
        private int address;
        private int code;
        private boolean wordWaitedFor;
        private boolean fillWaitedFor;
        private int wordsLeft;
        private int source;

        PictureUnit() {
            vramBytes = new int[1024];
            cram = new int[16];
            vsram = new int[2];
            registers = new int[16];
        }

        int vramWord(int k) {
            int high = (2 * k) & 1023;
            return vramBytes[high] * 256 + vramBytes[high + 1];
        }

        boolean movesFromMemory() {
            return wordsLeft > 0;
        }

        void writeControl(int w) {
            if (!wordWaitedFor) {
                takeFirstWord(w);
                return;
            }
            wordWaitedFor = false;
            address = (address & 0x3FFF) | ((w & 3) << 14);
            code = (code & 3) | (((w >> 4) & 15) << 2);
            if ((code & MOVE_CODE) == 0 || (registers[1] & MOVES_ALLOWED) == 0) {
                return;
            }
            switch (registers[15] >> 6) {
                case FILL:
                    fillWaitedFor = true;
                    break;
                case COPY:
                    copy(moveLength());
                    break;
                default:
                    source = 2 * halfSource();
                    wordsLeft = moveLength();
                    break;
            }
        }

        void writeData(int w) {
            wordWaitedFor = false;
            storeWord(w);
            if (fillWaitedFor) {
                fillWaitedFor = false;
                fill(w >> 8, moveLength());
            }
        }

        int readData() {
            wordWaitedFor = false;
            int k = address >> 1;
            int w = 0;
            switch (code & 15) {
                case 0:
                    w = vramWord(k);
                    break;
                case 8:
                    w = cram[k & 15];
                    break;
                case 4:
                    w = vsram[k & 1];
                    break;
                default:
                    break;
            }
            growAddress();
            return w;
        }

        void takeMovedWord(int w) {
            storeWord(w);
            source = (source & 0xFC00) | ((source + 2) & 0x3FF);
            wordsLeft--;
            if (wordsLeft == 0) {
                endMove();
            }
        }

        private void takeFirstWord(int w) {
            if (w >> 14 == 2) {
                registers[(w >> 8) & 15] = w & 255;
                code = code & 60;
                return;
            }
            address = (address & 0xC000) | (w & 0x3FFF);
            code = (code & 60) | (w >> 14);
            wordWaitedFor = true;
        }

        private int halfSource() {
            return (registers[10] & 127) * 256 + registers[9];
        }

        private int moveLength() {
            int length = (registers[12] * 256 + registers[11]) & 511;
            return length == 0 ? 512 : length;
        }

        private void endMove() {
            registers[11] = 0;
            registers[12] = 0;
        }

        private void growAddress() {
            address = (address + registers[14]) & 0xFFFF;
        }

        private void storeWord(int w) {
            int k = address >> 1;
            switch (code & 15) {
                case 1:
                    vramBytes[address & 1023] = w >> 8;
                    vramBytes[(address ^ 1) & 1023] = w & 255;
                    break;
                case 3:
                    cram[k & 15] = w;
                    break;
                case 5:
                    vsram[k & 1] = w;
                    break;
                default:
                    break;
            }
            growAddress();
        }

        private void fill(int value, int length) {
            for (int k = 0; k < length; k++) {
                vramBytes[(address ^ 1) & 1023] = value;
                growAddress();
            }
            endMove();
        }

        private void copy(int length) {
            int from = halfSource();
            for (int k = 0; k < length; k++) {
                vramBytes[address & 1023] = vramBytes[(from + k) & 1023];
                growAddress();
            }
            endMove();
        }
    }

    /** The line that is shown, and the interrupts that come of it. */
    private static final class Beam {
        private static final int LINES = 12;
        private static final int LINE_CYCLES = 64;

        private final PictureUnit picture;
        private final Painter painter;
        private final SecondProcessor second;
        private int line;
        private int cycle;
        private int counter;
        private boolean pending4;
        private boolean pending6;

        Beam(PictureUnit picture, Painter painter, SecondProcessor second) {
            this.picture = picture;
            this.painter = painter;
            this.second = second;
        }

        /** The highest pending level above the mask, 0 if there is none. */
        int highestPending(int mask) {
            if (pending6 && mask < 6) {
                return 6;
            }
            return pending4 && mask < 4 ? 4 : 0;
        }

        void takePending(int level) {
            if (level == 6) {
                pending6 = false;
            } else {
                pending4 = false;
            }
        }

        void goOn(int cycles) {
            int lines = (cycle + cycles) / LINE_CYCLES;
            cycle = (cycle + cycles) % LINE_CYCLES;
            for (int k = 0; k < lines; k++) {
                line = (line + 1) % LINES;
                if (line < Painter.HEIGHT) {
                    painter.draw(line);
                    countDown();
                } else {
                    beginHiddenLine();
                }
            }
        }

        private void beginHiddenLine() {
            counter = picture.registers[8];
            if (line == Painter.HEIGHT) {
                pending6 = pending6 || (picture.registers[1] & 32) != 0;
                second.tellLine8();
            }
        }

        private void countDown() {
            if (counter > 0) {
                counter--;
                return;
            }
            counter = picture.registers[8];
            pending4 = pending4 || (picture.registers[0] & 16) != 0;
        }
    }

    /** Draws lines; a drawn dot is its colour, plus HIGH if its name is high, or 0 if it is seen through. */
    private static final class Painter {
        private static final int WIDTH = 16;
        private static final int HEIGHT = 8;
        private static final int HIGH = 16;
        private static final int SPRITES = 8;
        private static final int SPRITES_A_LINE = 3;
        private static final int SPRITE_OFFSET = 16;

        private final PictureUnit picture;
        private final int[] registers;
        private final int[] screen;
        private final int[] dotsOfA;
        private final int[] dotsOfB;
        private final int[] dotsOfSprites;
        private final int[] taken;
        private boolean collided;
        private boolean tooMany;

        Painter(PictureUnit picture) {
            this.picture = picture;
            registers = picture.registers;
            screen = new int[WIDTH * HEIGHT];
            dotsOfA = new int[WIDTH];
            dotsOfB = new int[WIDTH];
            dotsOfSprites = new int[WIDTH];
            taken = new int[SPRITES_A_LINE];
        }

        void draw(int y) {
            boolean shown = (registers[1] & 64) != 0;
            if (shown) {
                drawPlane(dotsOfA, 0, y);
                drawPlane(dotsOfB, 1, y);
                drawSprites(y);
            }
            int background = registers[7] & 15;
            for (int x = 0; x < WIDTH; x++) {
                int dot = shown ? foremost(dotsOfSprites[x], dotsOfA[x], dotsOfB[x]) : 0;
                screen[y * WIDTH + x] = dot == 0 ? background : dot & 15;
            }
        }

        private static int foremost(int sprite, int a, int b) {
            if (sprite > HIGH) {
                return sprite;
            }
            if (a > HIGH) {
                return a;
            }
            if (b > HIGH) {
                return b;
            }
            if (sprite != 0) {
                return sprite;
            }
            return a != 0 ? a : b;
        }

        /** Plane A is 0, plane B is 1. */
        private void drawPlane(int[] dots, int plane, int y) {
            int names = (registers[2 + 2 * plane] & 15) * 32;
            int across = picture.vramWord((registers[13] & 31) * 16 + plane);
            int down = picture.vsram[plane];
            int window = plane == 0 ? registers[3] & 7 : 0;
            for (int x = 0; x < WIDTH; x++) {
                boolean scrolled = x / 4 >= window;
                int planeX = scrolled ? (x - across) & 31 : x;
                int planeY = scrolled ? (y + down) & 15 : y;
                int name = picture.vramWord(names + planeY / 4 * 8 + planeX / 4);
                dots[x] = patternDot(name, planeX & 3, planeY & 3);
            }
        }

        private int patternDot(int name, int column, int row) {
            int fromLeft = (name & 0x800) != 0 ? 3 - column : column;
            int fromTop = (name & 0x1000) != 0 ? 3 - row : row;
            int colour = (picture.vramWord((name & 127) * 4 + fromTop) >> (12 - 4 * fromLeft)) & 15;
            return colour != 0 && (name & 0x8000) != 0 ? colour + HIGH : colour;
        }

        private void drawSprites(int y) {
            for (int x = 0; x < WIDTH; x++) {
                dotsOfSprites[x] = 0;
            }
            int count = takeSprites(y);
            for (int k = 0; k < count; k++) {
                drawSprite(taken[k], y);
            }
        }

        /** Notes where the words of the sprites on the line stand; answers how many there are. */
        private int takeSprites(int y) {
            int table = (registers[5] & 15) * 32;
            int count = 0;
            int sprite = 0;
            for (int k = 0; k < SPRITES; k++) {
                int words = table + 4 * sprite;
                if (isOnLine(words, y)) {
                    // Too many comes before masking: a mask that would be the fourth is one too many.
                    if (count == SPRITES_A_LINE) {
                        tooMany = true;
                        return count;
                    }
                    if (count > 0 && (picture.vramWord(words + 3) & 63) == 0) {
                        return count;
                    }
                    taken[count] = words;
                    count++;
                }
                sprite = picture.vramWord(words + 1) & 7;
                if (sprite == 0) {
                    return count;
                }
            }
            return count;
        }

        private boolean isOnLine(int words, int y) {
            int row = y + SPRITE_OFFSET - (picture.vramWord(words) & 63);
            return row >= 0 && row < 4;
        }

        private void drawSprite(int words, int y) {
            int row = y + SPRITE_OFFSET - (picture.vramWord(words) & 63);
            int name = picture.vramWord(words + 2);
            int left = (picture.vramWord(words + 3) & 63) - SPRITE_OFFSET;
            for (int column = 0; column < 4; column++) {
                int x = left + column;
                int dot = patternDot(name, column, row);
                if (x < 0 || x >= WIDTH || dot == 0) {
                    continue;
                }
                if (dotsOfSprites[x] == 0) {
                    dotsOfSprites[x] = dot;
                } else {
                    collided = true;
                }
            }
        }
    }
}
