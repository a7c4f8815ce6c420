/** A small computer of eight bits on one board. What it must do stands in DOC.md. */
public final class BoardMachine {
    public static final int NONE = -1;

    private static final int ADDRESSES = 65536;
    private static final int MOST_BYTES = 8;
    private static final int MOST_STEPS = 100000;

    private static final int ALL_MADE = 0;
    private static final int AT_BREAK = 1;
    private static final int STOPPED = 2;

    private final Board board;
    private final Processor processor;
    private final Breaks breaks;

    public BoardMachine() {
        board = new Board();
        processor = new Processor(board);
        breaks = new Breaks();
    }

    public void load(int address, long bytes, int n) throws IllegalArgumentException {
        if (n < 1 || n > MOST_BYTES) {
            throw new IllegalArgumentException("n is not 1 .. 8");
        }
        if (address < 0 || address > ADDRESSES - n) {
            throw new IllegalArgumentException("not all addresses are 0 .. 65535");
        }
        for (int i = 0; i < n; i++) {
            board.place(address + i, (int) (bytes >>> 8 * (n - 1 - i)) & 255);
        }
    }

    public void reset() {
        board.restart();
        processor.restart();
    }

    public int step() {
        return processor.advance();
    }

    public int run(int n) throws IllegalArgumentException {
        if (n < 0 || n > MOST_STEPS) {
            throw new IllegalArgumentException("n is not 0 .. 100000");
        }
        if (processor.stopped) {
            return STOPPED;
        }
        for (int i = 0; i < n; i++) {
            processor.advance();
            if (processor.stopped) {
                return STOPPED;
            }
            if (breaks.has(processor.pc)) {
                return AT_BREAK;
            }
        }
        return ALL_MADE;
    }

    public void nmi() {
        processor.edge = true;
    }

    public int receive(int b) {
        return board.port.accept(b);
    }

    public int sent(int i) {
        return board.port.sentByte(i);
    }

    public int look(int address) throws IllegalArgumentException {
        if (!isAddress(address)) {
            throw new IllegalArgumentException("the address is not 0 .. 65535");
        }
        return board.peek(address);
    }

    public int register(int i) {
        return switch (i) {
            case 0 -> processor.a;
            case 1 -> processor.x;
            case 2 -> processor.y;
            case 3 -> processor.s;
            case 4 -> processor.p;
            case 5 -> processor.pc;
            default -> NONE;
        };
    }

    public void set(int i, int v) throws IllegalArgumentException {
        switch (i) {
            case 0 -> processor.a = v & 255;
            case 1 -> processor.x = v & 255;
            case 2 -> processor.y = v & 255;
            case 3 -> processor.s = v & 255;
            case 4 -> processor.p = v & 255 | Processor.ALWAYS;
            case 5 -> processor.pc = v & 0xFFFF;
            default -> throw new IllegalArgumentException("i is not 0 .. 5");
        }
    }

    public boolean setBreak(int address) {
        return isAddress(address) && breaks.add(address);
    }

    public boolean clearBreak(int address) {
        return breaks.remove(address);
    }

    public int trace(int i) {
        return processor.carried.kept(i);
    }

    public long count(int what) {
        return switch (what) {
            case 0 -> processor.cycles;
            case 1 -> processor.carried.noted;
            case 2 -> board.port.sentInAll;
            case 3 -> board.port.waiting;
            case 4 -> board.bank;
            case 5 -> board.timers.counter1;
            case 6 -> board.timers.counter2;
            case 7 -> board.timers.latch1;
            case 8 -> board.timers.ifr;
            case 9 -> board.timers.ier;
            case 10 -> processor.waits ? 1 : 0;
            case 11 -> processor.stopped ? 1 : 0;
            case 12 -> processor.edge ? 1 : 0;
            case 13 -> breaks.size;
            case 14 -> processor.interrupts;
            default -> NONE;
        };
    }

    private static boolean isAddress(int address) {
        return address >= 0 && address < ADDRESSES;
    }

    /** Bytes, eight to an element: a board has 81920 of them, and many boards must find room. */
    private static final class Memory {
        private final long[] words;

        Memory(int bytes) {
            words = new long[bytes >> 3];
        }

        int byteAt(int cell) {
            return (int) (words[cell >> 3] >>> 8 * (cell & 7)) & 255;
        }

        void store(int cell, int value) {
            int shift = 8 * (cell & 7);
            long others = words[cell >> 3] & ~(255L << shift);
            words[cell >> 3] = others | (long) value << shift;
        }
    }

    /** The two timers. */
    private static final class Timers {
        private static final int LOW_1 = 4;
        private static final int HIGH_1 = 5;
        private static final int LATCH_LOW_1 = 6;
        private static final int LATCH_HIGH_1 = 7;
        private static final int LOW_2 = 8;
        private static final int HIGH_2 = 9;
        private static final int ACR = 11;
        private static final int IFR = 13;
        private static final int IER = 14;
        private static final int FLAG_1 = 64;
        private static final int FLAG_2 = 32;
        private static final int TOP = 65535;

        int counter1 = TOP;
        int counter2 = TOP;
        int latch1;
        int ifr;
        int ier;
        private int latch2Low;
        private int acr;
        private boolean armed1;
        private boolean armed2;

        void restart() {
            counter1 = TOP;
            counter2 = TOP;
            latch1 = 0;
            ifr = 0;
            ier = 0;
            latch2Low = 0;
            acr = 0;
            armed1 = false;
            armed2 = false;
        }

        boolean asks() {
            return (peek(IFR) & 128) != 0;
        }

        int peek(int register) {
            return switch (register) {
                case LOW_1 -> counter1 & 255;
                case HIGH_1 -> counter1 >> 8;
                case LATCH_LOW_1 -> latch1 & 255;
                case LATCH_HIGH_1 -> latch1 >> 8;
                case LOW_2 -> counter2 & 255;
                case HIGH_2 -> counter2 >> 8;
                case ACR -> acr;
                case IFR -> (ifr & ier) != 0 ? ifr | 128 : ifr;
                case IER -> ier | 128;
                default -> 0;
            };
        }

        /** What reading a register does beside answering. */
        void afterReading(int register) {
            if (register == LOW_1) {
                ifr &= ~FLAG_1;
            } else if (register == LOW_2) {
                ifr &= ~FLAG_2;
            }
        }

        void write(int register, int value) {
            switch (register) {
                case LOW_1, LATCH_LOW_1 -> latch1 = latch1 & 0xFF00 | value;
                case HIGH_1 -> {
                    latch1 = latch1 & 255 | value << 8;
                    counter1 = latch1;
                    armed1 = true;
                    ifr &= ~FLAG_1;
                }
                case LATCH_HIGH_1 -> {
                    latch1 = latch1 & 255 | value << 8;
                    ifr &= ~FLAG_1;
                }
                case LOW_2 -> latch2Low = value;
                case HIGH_2 -> {
                    counter2 = value << 8 | latch2Low;
                    armed2 = true;
                    ifr &= ~FLAG_2;
                }
                case ACR -> acr = value;
                case IFR -> ifr &= ~value;
                case IER -> ier = (value & 128) != 0 ? ier | value & 127 : ier & ~value;
                default -> { }
            }
        }

        void pass(int cycles) {
            // A counter that is high enough meets no 0 on its way: one subtraction does.
            if (counter1 >= cycles) {
                counter1 -= cycles;
            } else {
                for (int i = 0; i < cycles; i++) {
                    passOneOf1();
                }
            }
            if (counter2 >= cycles) {
                counter2 -= cycles;
            } else {
                for (int i = 0; i < cycles; i++) {
                    passOneOf2();
                }
            }
        }

        private void passOneOf1() {
            if (counter1 != 0) {
                counter1--;
                return;
            }
            boolean again = (acr & 64) != 0;
            counter1 = again ? latch1 : TOP;
            if (armed1) {
                ifr |= FLAG_1;
                armed1 = again;
            }
        }

        private void passOneOf2() {
            if (counter2 != 0) {
                counter2--;
                return;
            }
            counter2 = TOP;
            if (armed2) {
                ifr |= FLAG_2;
                armed2 = false;
            }
        }
    }

    /** The serial port. */
    private static final class Port {
        static final int REGISTERS = 3;
        private static final int DATA = 0;
        private static final int STATUS = 1;
        private static final int MOST_WAITING = 64;
        private static final int KEPT = 256;

        int waiting;
        int sentInAll;
        private final int[] came = new int[MOST_WAITING];
        private final int[] sentBytes = new int[KEPT];
        private int oldest;
        private int command;

        void restart() {
            waiting = 0;
            oldest = 0;
            command = 0;
        }

        int accept(int b) {
            if (waiting == MOST_WAITING || b < 0 || b > 255) {
                return NONE;
            }
            came[oldest + waiting & MOST_WAITING - 1] = b;
            waiting++;
            return waiting;
        }

        int sentByte(int i) {
            if (i < 0 || i >= sentInAll || i < sentInAll - KEPT) {
                return NONE;
            }
            return sentBytes[i & KEPT - 1];
        }

        boolean asks() {
            return (peek(STATUS) & 128) != 0;
        }

        int peek(int register) {
            return switch (register) {
                case DATA -> waiting > 0 ? came[oldest] : 0;
                case STATUS -> waiting == 0 ? 16 : (command & 3) == 1 ? 16 | 8 | 128 : 16 | 8;
                default -> command;
            };
        }

        /** What reading a register does beside answering. */
        void afterReading(int register) {
            if (register == DATA && waiting > 0) {
                oldest = oldest + 1 & MOST_WAITING - 1;
                waiting--;
            }
        }

        void write(int register, int value) {
            switch (register) {
                case DATA -> {
                    sentBytes[sentInAll & KEPT - 1] = value;
                    sentInAll++;
                }
                case STATUS -> command = 0;
                default -> command = value;
            }
        }
    }

    /** The map: memory, banks, devices and fixed memory behind one row of addresses. */
    private static final class Board {
        private static final int BANKS = 0x8000;
        private static final int DEVICES = 0xA000;
        private static final int PORT = 0xA010;
        private static final int BANK = 0xA020;
        private static final int FIXED = 0xC000;

        private static final int BANK_SIZE = 0x2000;
        private static final int FIXED_CELLS = BANKS + 4 * BANK_SIZE;
        private static final int CELLS = FIXED_CELLS + ADDRESSES - FIXED;

        final Timers timers = new Timers();
        final Port port = new Port();
        int bank;
        private final Memory memory = new Memory(CELLS);

        void restart() {
            bank = 0;
            timers.restart();
            port.restart();
        }

        boolean asks() {
            return timers.asks() || port.asks();
        }

        int read(int address) {
            if (!isDevice(address)) {
                return memory.byteAt(cell(address));
            }
            int value = peekDevice(address);
            afterReading(address);
            return value;
        }

        int peek(int address) {
            return isDevice(address) ? peekDevice(address) : memory.byteAt(cell(address));
        }

        void write(int address, int value) {
            if (address < DEVICES) {
                memory.store(cell(address), value);
            } else if (address < PORT) {
                timers.write(address - DEVICES, value);
            } else if (address < PORT + Port.REGISTERS) {
                port.write(address - PORT, value);
            } else if (address == BANK) {
                bank = value & 3;
            }
        }

        /** Unlike the processor, who loads reaches fixed memory and no device. */
        void place(int address, int value) {
            if (!isDevice(address)) {
                memory.store(cell(address), value);
            }
        }

        private int peekDevice(int address) {
            if (address < PORT) {
                return timers.peek(address - DEVICES);
            }
            if (address < PORT + Port.REGISTERS) {
                return port.peek(address - PORT);
            }
            return address == BANK ? bank : 0;
        }

        private void afterReading(int address) {
            if (address < PORT) {
                timers.afterReading(address - DEVICES);
            } else if (address < PORT + Port.REGISTERS) {
                port.afterReading(address - PORT);
            }
        }

        private int cell(int address) {
            if (address < BANKS) {
                return address;
            }
            return address < DEVICES ? address + bank * BANK_SIZE : address - FIXED + FIXED_CELLS;
        }

        private static boolean isDevice(int address) {
            return address >= DEVICES && address < FIXED;
        }
    }

    /** The addresses at which a run ends. */
    private static final class Breaks {
        private static final int MOST = 16;

        int size;
        private final int[] addresses = new int[MOST];

        boolean has(int address) {
            return find(address) != NONE;
        }

        boolean add(int address) {
            if (size == MOST || has(address)) {
                return false;
            }
            addresses[size] = address;
            size++;
            return true;
        }

        boolean remove(int address) {
            int at = find(address);
            if (at == NONE) {
                return false;
            }
            size--;
            addresses[at] = addresses[size];
            return true;
        }

        private int find(int address) {
            for (int i = 0; i < size; i++) {
                if (addresses[i] == address) {
                    return i;
                }
            }
            return NONE;
        }
    }

    /** The latest addresses of which instructions were carried out. */
    private static final class Trace {
        private static final int KEPT = 32;

        int noted;
        private final int[] addresses = new int[KEPT];

        void note(int address) {
            addresses[noted & KEPT - 1] = address;
            noted++;
        }

        int kept(int i) {
            int size = Math.min(noted, KEPT);
            return i < 0 || i >= size ? NONE : addresses[noted - size + i & KEPT - 1];
        }
    }

    /** What each code does, in which mode, and its cycles without those that only some runs of it take. */
    private static final class Codes {
        // Modes, by how many bytes an instruction has: one, then two, then three.
        static final int IMP = 0;
        static final int ACC = 1;
        static final int IMM = 2;
        static final int REL = 3;
        static final int ZP = 4;
        static final int ZX = 5;
        static final int ZY = 6;
        static final int IX = 7;
        static final int IY = 8;
        static final int IP = 9;
        static final int ABS = 10;
        static final int AX = 11;
        static final int AY = 12;
        static final int ZPR = 13;

        // Groups of operations that are carried out alike.
        static final int READING = 0;
        static final int WRITING = 1;
        static final int CHANGING = 2;
        static final int MOVING = 3;
        static final int FLAGGING = 4;
        static final int STACKING = 5;
        static final int BRANCHING = 6;
        static final int JUMPING = 7;

        // Operations: 16 * their group + their place in it.
        static final int ORA = 0x00;
        static final int AND = 0x01;
        static final int EOR = 0x02;
        static final int ADC = 0x03;
        static final int LDA = 0x04;
        static final int CMP = 0x05;
        static final int SBC = 0x06;
        static final int LDX = 0x07;
        static final int LDY = 0x08;
        static final int CPX = 0x09;
        static final int CPY = 0x0A;
        static final int BIT = 0x0B;
        // BIT of the mode IMM, that sets Z alone.
        static final int BTI = 0x0C;

        static final int STA = 0x10;
        static final int STX = 0x11;
        static final int STY = 0x12;
        static final int STZ = 0x13;

        static final int ASL = 0x20;
        static final int ROL = 0x21;
        static final int LSR = 0x22;
        static final int ROR = 0x23;
        static final int INC = 0x24;
        static final int DEC = 0x25;
        static final int TSB = 0x26;
        static final int TRB = 0x27;
        static final int RMB = 0x28;
        static final int SMB = 0x29;

        static final int INX = 0x30;
        static final int INY = 0x31;
        static final int DEX = 0x32;
        static final int DEY = 0x33;
        static final int TAX = 0x34;
        static final int TAY = 0x35;
        static final int TXA = 0x36;
        static final int TYA = 0x37;
        static final int TSX = 0x38;
        static final int TXS = 0x39;

        static final int CLC = 0x40;
        static final int SEC = 0x41;
        static final int CLI = 0x42;
        static final int SEI = 0x43;
        static final int CLV = 0x44;
        static final int CLD = 0x45;
        static final int SED = 0x46;
        static final int NOP = 0x47;
        static final int WAI = 0x48;
        static final int STP = 0x49;

        static final int PHA = 0x50;
        static final int PHX = 0x51;
        static final int PHY = 0x52;
        static final int PHP = 0x53;
        static final int PLA = 0x54;
        static final int PLX = 0x55;
        static final int PLY = 0x56;
        static final int PLP = 0x57;

        static final int BPL = 0x60;
        static final int BMI = 0x61;
        static final int BVC = 0x62;
        static final int BVS = 0x63;
        static final int BCC = 0x64;
        static final int BCS = 0x65;
        static final int BNE = 0x66;
        static final int BEQ = 0x67;
        static final int BRA = 0x68;
        static final int BBR = 0x69;
        static final int BBS = 0x6A;

        static final int JMP = 0x70;
        // JMP to the word at an address.
        static final int JMI = 0x71;
        static final int JSR = 0x72;
        static final int RTS = 0x73;
        static final int RTI = 0x74;
        static final int BRK = 0x75;

        // A row for each upper half of a code.
        static final int[] OPERATIONS = {
            BRK, ORA, NOP, NOP, TSB, ORA, ASL, RMB, PHP, ORA, ASL, NOP, TSB, ORA, ASL, BBR,
            BPL, ORA, ORA, NOP, TRB, ORA, ASL, RMB, CLC, ORA, INC, NOP, TRB, ORA, ASL, BBR,
            JSR, AND, NOP, NOP, BIT, AND, ROL, RMB, PLP, AND, ROL, NOP, BIT, AND, ROL, BBR,
            BMI, AND, AND, NOP, BIT, AND, ROL, RMB, SEC, AND, DEC, NOP, BIT, AND, ROL, BBR,
            RTI, EOR, NOP, NOP, NOP, EOR, LSR, RMB, PHA, EOR, LSR, NOP, JMP, EOR, LSR, BBR,
            BVC, EOR, EOR, NOP, NOP, EOR, LSR, RMB, CLI, EOR, PHY, NOP, NOP, EOR, LSR, BBR,
            RTS, ADC, NOP, NOP, STZ, ADC, ROR, RMB, PLA, ADC, ROR, NOP, JMI, ADC, ROR, BBR,
            BVS, ADC, ADC, NOP, STZ, ADC, ROR, RMB, SEI, ADC, PLY, NOP, JMI, ADC, ROR, BBR,
            BRA, STA, NOP, NOP, STY, STA, STX, SMB, DEY, BTI, TXA, NOP, STY, STA, STX, BBS,
            BCC, STA, STA, NOP, STY, STA, STX, SMB, TYA, STA, TXS, NOP, STZ, STA, STZ, BBS,
            LDY, LDA, LDX, NOP, LDY, LDA, LDX, SMB, TAY, LDA, TAX, NOP, LDY, LDA, LDX, BBS,
            BCS, LDA, LDA, NOP, LDY, LDA, LDX, SMB, CLV, LDA, TSX, NOP, LDY, LDA, LDX, BBS,
            CPY, CMP, NOP, NOP, CPY, CMP, DEC, SMB, INY, CMP, DEX, WAI, CPY, CMP, DEC, BBS,
            BNE, CMP, CMP, NOP, NOP, CMP, DEC, SMB, CLD, CMP, PHX, STP, NOP, CMP, DEC, BBS,
            CPX, SBC, NOP, NOP, CPX, SBC, INC, SMB, INX, SBC, NOP, NOP, CPX, SBC, INC, BBS,
            BEQ, SBC, SBC, NOP, NOP, SBC, INC, SMB, SED, SBC, PLX, NOP, NOP, SBC, INC, BBS
        };

        static final int[] MODES = {
            IMP, IX,  IMM, IMP, ZP,  ZP,  ZP,  ZP,  IMP, IMM, ACC, IMP, ABS, ABS, ABS, ZPR,
            REL, IY,  IP,  IMP, ZP,  ZX,  ZX,  ZP,  IMP, AY,  ACC, IMP, ABS, AX,  AX,  ZPR,
            ABS, IX,  IMM, IMP, ZP,  ZP,  ZP,  ZP,  IMP, IMM, ACC, IMP, ABS, ABS, ABS, ZPR,
            REL, IY,  IP,  IMP, ZX,  ZX,  ZX,  ZP,  IMP, AY,  ACC, IMP, AX,  AX,  AX,  ZPR,
            IMP, IX,  IMM, IMP, IMM, ZP,  ZP,  ZP,  IMP, IMM, ACC, IMP, ABS, ABS, ABS, ZPR,
            REL, IY,  IP,  IMP, IMM, ZX,  ZX,  ZP,  IMP, AY,  IMP, IMP, ABS, AX,  AX,  ZPR,
            IMP, IX,  IMM, IMP, ZP,  ZP,  ZP,  ZP,  IMP, IMM, ACC, IMP, ABS, ABS, ABS, ZPR,
            REL, IY,  IP,  IMP, ZX,  ZX,  ZX,  ZP,  IMP, AY,  IMP, IMP, AX,  AX,  AX,  ZPR,
            REL, IX,  IMM, IMP, ZP,  ZP,  ZP,  ZP,  IMP, IMM, IMP, IMP, ABS, ABS, ABS, ZPR,
            REL, IY,  IP,  IMP, ZX,  ZX,  ZY,  ZP,  IMP, AY,  IMP, IMP, ABS, AX,  AX,  ZPR,
            IMM, IX,  IMM, IMP, ZP,  ZP,  ZP,  ZP,  IMP, IMM, IMP, IMP, ABS, ABS, ABS, ZPR,
            REL, IY,  IP,  IMP, ZX,  ZX,  ZY,  ZP,  IMP, AY,  IMP, IMP, AX,  AX,  AY,  ZPR,
            IMM, IX,  IMM, IMP, ZP,  ZP,  ZP,  ZP,  IMP, IMM, IMP, IMP, ABS, ABS, ABS, ZPR,
            REL, IY,  IP,  IMP, IMM, ZX,  ZX,  ZP,  IMP, AY,  IMP, IMP, ABS, AX,  AX,  ZPR,
            IMM, IX,  IMM, IMP, ZP,  ZP,  ZP,  ZP,  IMP, IMM, IMP, IMP, ABS, ABS, ABS, ZPR,
            REL, IY,  IP,  IMP, IMM, ZX,  ZX,  ZP,  IMP, AY,  IMP, IMP, ABS, AX,  AX,  ZPR
        };

        static final int[] CYCLES = {
            7, 6, 2, 1, 5, 3, 5, 5, 3, 2, 2, 1, 6, 4, 6, 5,
            2, 5, 5, 1, 5, 4, 6, 5, 2, 4, 2, 1, 6, 4, 6, 5,
            6, 6, 2, 1, 3, 3, 5, 5, 4, 2, 2, 1, 4, 4, 6, 5,
            2, 5, 5, 1, 4, 4, 6, 5, 2, 4, 2, 1, 4, 4, 6, 5,
            6, 6, 2, 1, 3, 3, 5, 5, 3, 2, 2, 1, 3, 4, 6, 5,
            2, 5, 5, 1, 4, 4, 6, 5, 2, 4, 3, 1, 8, 4, 6, 5,
            6, 6, 2, 1, 3, 3, 5, 5, 4, 2, 2, 1, 6, 4, 6, 5,
            2, 5, 5, 1, 4, 4, 6, 5, 2, 4, 4, 1, 6, 4, 6, 5,
            2, 6, 2, 1, 3, 3, 3, 5, 2, 2, 2, 1, 4, 4, 4, 5,
            2, 6, 5, 1, 4, 4, 4, 5, 2, 5, 2, 1, 4, 5, 5, 5,
            2, 6, 2, 1, 3, 3, 3, 5, 2, 2, 2, 1, 4, 4, 4, 5,
            2, 5, 5, 1, 4, 4, 4, 5, 2, 4, 2, 1, 4, 4, 4, 5,
            2, 6, 2, 1, 3, 3, 5, 5, 2, 2, 2, 3, 4, 4, 6, 5,
            2, 5, 5, 1, 4, 4, 6, 5, 2, 4, 3, 3, 4, 4, 7, 5,
            2, 6, 2, 1, 3, 3, 5, 5, 2, 2, 2, 1, 4, 4, 6, 5,
            2, 5, 5, 1, 4, 4, 6, 5, 2, 4, 4, 1, 4, 4, 7, 5
        };

        /** Those that write where they index take the cycle always; it stands in CYCLES. */
        static boolean paysForCrossing(int operation) {
            return operation >> 4 == READING || operation >= ASL && operation <= ROR;
        }
    }

    /** The processor: its registers, and what a step does. */
    private static final class Processor {
        static final int ALWAYS = 16 | 32;

        private static final int C = 1;
        private static final int Z = 2;
        private static final int I = 4;
        private static final int D = 8;
        private static final int B = 16;
        private static final int V = 64;
        private static final int N = 128;

        private static final int STACK = 256;
        private static final int NMI_VECTOR = 0xFFFA;
        private static final int RESET_VECTOR = 0xFFFC;
        private static final int IRQ_VECTOR = 0xFFFE;
        private static final int INTERRUPT_CYCLES = 7;

        int a;
        int x;
        int y;
        int s;
        int p = ALWAYS;
        int pc;
        boolean waits;
        boolean stopped;
        boolean edge;
        long cycles;
        int interrupts;
        final Trace carried = new Trace();
        private final Board board;
        private int spent;
        private boolean crossed;

        Processor(Board board) {
            this.board = board;
        }

        void restart() {
            s = 0xFD;
            p = p & ~D | I;
            pc = wordAt(RESET_VECTOR);
            waits = false;
            stopped = false;
            edge = false;
        }

        int advance() {
            if (stopped) {
                return 0;
            }
            boolean asked = !edge && board.asks();
            if (edge || asked) {
                waits = false;
            }
            if (edge) {
                edge = false;
                takeInterrupt(NMI_VECTOR);
            } else if (asked && (p & I) == 0) {
                takeInterrupt(IRQ_VECTOR);
            } else if (waits) {
                spent = 1;
            } else {
                carryOut();
            }
            cycles += spent;
            board.timers.pass(spent);
            return spent;
        }

        private void takeInterrupt(int vector) {
            interrupts++;
            spent = INTERRUPT_CYCLES;
            interrupt(vector, p & ~B);
        }

        private void interrupt(int vector, int pushed) {
            push(pc >> 8);
            push(pc & 255);
            push(pushed);
            p = p & ~D | I;
            pc = board.read(vector) | board.read(vector + 1) << 8;
        }

        private void carryOut() {
            carried.note(pc);
            int code = fetch();
            int operation = Codes.OPERATIONS[code];
            int mode = Codes.MODES[code];
            int operand = mode >= Codes.IMM ? fetch() : 0;
            if (mode >= Codes.ABS) {
                operand |= fetch() << 8;
            }
            crossed = false;
            int at = addressOf(mode, operand);
            spent = Codes.CYCLES[code];
            if (crossed && Codes.paysForCrossing(operation)) {
                spent++;
            }
            switch (operation >> 4) {
                case Codes.READING -> use(operation, mode == Codes.IMM ? operand : board.read(at));
                case Codes.WRITING -> board.write(at, stored(operation));
                case Codes.CHANGING -> change(operation, code >> 4 & 7, mode, at);
                case Codes.MOVING -> move(operation);
                case Codes.FLAGGING -> changeState(operation);
                case Codes.STACKING -> pushOrPull(operation);
                case Codes.BRANCHING -> branch(operation, code >> 4 & 7, operand);
                case Codes.JUMPING -> jump(operation, at);
                default -> { }
            }
        }

        private int fetch() {
            int value = board.read(pc);
            pc = pc + 1 & 0xFFFF;
            return value;
        }

        private int addressOf(int mode, int operand) {
            return switch (mode) {
                case Codes.ZX -> operand + x & 255;
                case Codes.ZY -> operand + y & 255;
                case Codes.AX -> indexed(operand, x);
                case Codes.AY -> indexed(operand, y);
                case Codes.IX -> pointerAt(operand + x & 255);
                case Codes.IY -> indexed(pointerAt(operand), y);
                case Codes.IP -> pointerAt(operand);
                default -> operand;
            };
        }

        private int indexed(int base, int index) {
            int at = base + index & 0xFFFF;
            crossed = at >> 8 != base >> 8;
            return at;
        }

        private int pointerAt(int b) {
            int low = board.read(b);
            return low | board.read(b + 1 & 255) << 8;
        }

        private int wordAt(int address) {
            int low = board.read(address);
            return low | board.read(address + 1 & 0xFFFF) << 8;
        }

        private void use(int operation, int value) {
            switch (operation) {
                case Codes.ORA -> a = shown(a | value);
                case Codes.AND -> a = shown(a & value);
                case Codes.EOR -> a = shown(a ^ value);
                case Codes.LDA -> a = shown(value);
                case Codes.LDX -> x = shown(value);
                case Codes.LDY -> y = shown(value);
                case Codes.CMP -> compare(a, value);
                case Codes.CPX -> compare(x, value);
                case Codes.CPY -> compare(y, value);
                case Codes.ADC -> {
                    if ((p & D) != 0) {
                        addDecimal(value);
                    } else {
                        add(value);
                    }
                }
                case Codes.SBC -> {
                    if ((p & D) != 0) {
                        subtractDecimal(value);
                    } else {
                        add(255 - value);
                    }
                }
                case Codes.BIT -> {
                    mark(Z, (a & value) == 0);
                    p = p & ~(N | V) | value & (N | V);
                }
                default -> mark(Z, (a & value) == 0);
            }
        }

        private void add(int value) {
            int sum = a + value + (p & C);
            mark(V, changesSign(value, sum));
            mark(C, sum > 255);
            a = shown(sum);
        }

        private void addDecimal(int value) {
            int low = (a & 15) + (value & 15) + (p & C);
            if (low > 9) {
                low = (low + 6 & 15) + 16;
            }
            int sum = (a & 0xF0) + (value & 0xF0) + low;
            mark(V, changesSign(value, sum));
            if (sum > 0x9F) {
                sum += 0x60;
            }
            mark(C, sum > 255);
            a = shown(sum);
            spent++;
        }

        private void subtractDecimal(int value) {
            int borrow = 1 - (p & C);
            int low = (a & 15) - (value & 15) - borrow;
            int difference = a - value - borrow;
            if (difference < 0) {
                difference -= 0x60;
            }
            if (low < 0) {
                difference -= 6;
            }
            // C and V are those of the numbers that are not decimal.
            add(255 - value);
            a = shown(difference);
            spent++;
        }

        private boolean changesSign(int value, int sum) {
            return ((a ^ sum) & (value ^ sum) & 128) != 0;
        }

        private void compare(int held, int value) {
            mark(C, held >= value);
            shown(held - value);
        }

        private int stored(int operation) {
            return switch (operation) {
                case Codes.STA -> a;
                case Codes.STX -> x;
                case Codes.STY -> y;
                default -> 0;
            };
        }

        private void change(int operation, int k, int mode, int at) {
            if (mode == Codes.ACC) {
                a = changed(operation, k, a);
            } else {
                board.write(at, changed(operation, k, board.read(at)));
            }
        }

        private int changed(int operation, int k, int value) {
            switch (operation) {
                case Codes.ASL:
                    return shifted(value << 1, value >> 7);
                case Codes.ROL:
                    return shifted(value << 1 | p & C, value >> 7);
                case Codes.LSR:
                    return shifted(value >> 1, value & 1);
                case Codes.ROR:
                    return shifted(value >> 1 | (p & C) << 7, value & 1);
                case Codes.INC:
                    return shown(value + 1);
                case Codes.DEC:
                    return shown(value - 1);
                case Codes.TSB:
                    mark(Z, (a & value) == 0);
                    return value | a;
                case Codes.TRB:
                    mark(Z, (a & value) == 0);
                    return value & ~a;
                case Codes.RMB:
                    return value & ~(1 << k);
                default:
                    return value | 1 << k;
            }
        }

        private int shifted(int value, int leaving) {
            mark(C, leaving != 0);
            return shown(value);
        }

        private void move(int operation) {
            switch (operation) {
                case Codes.INX -> x = shown(x + 1);
                case Codes.INY -> y = shown(y + 1);
                case Codes.DEX -> x = shown(x - 1);
                case Codes.DEY -> y = shown(y - 1);
                case Codes.TAX -> x = shown(a);
                case Codes.TAY -> y = shown(a);
                case Codes.TXA -> a = shown(x);
                case Codes.TYA -> a = shown(y);
                case Codes.TSX -> x = shown(s);
                default -> s = x;
            }
        }

        private void changeState(int operation) {
            switch (operation) {
                case Codes.CLC -> mark(C, false);
                case Codes.SEC -> mark(C, true);
                case Codes.CLI -> mark(I, false);
                case Codes.SEI -> mark(I, true);
                case Codes.CLV -> mark(V, false);
                case Codes.CLD -> mark(D, false);
                case Codes.SED -> mark(D, true);
                case Codes.WAI -> waits = true;
                case Codes.STP -> stopped = true;
                default -> { }
            }
        }

        private void pushOrPull(int operation) {
            switch (operation) {
                case Codes.PHA -> push(a);
                case Codes.PHX -> push(x);
                case Codes.PHY -> push(y);
                case Codes.PHP -> push(p);
                case Codes.PLA -> a = shown(pull());
                case Codes.PLX -> x = shown(pull());
                case Codes.PLY -> y = shown(pull());
                default -> p = pull() | ALWAYS;
            }
        }

        private void branch(int operation, int k, int operand) {
            switch (operation) {
                case Codes.BPL -> goIf((p & N) == 0, operand);
                case Codes.BMI -> goIf((p & N) != 0, operand);
                case Codes.BVC -> goIf((p & V) == 0, operand);
                case Codes.BVS -> goIf((p & V) != 0, operand);
                case Codes.BCC -> goIf((p & C) == 0, operand);
                case Codes.BCS -> goIf((p & C) != 0, operand);
                case Codes.BNE -> goIf((p & Z) == 0, operand);
                case Codes.BEQ -> goIf((p & Z) != 0, operand);
                case Codes.BBR -> goIf((board.read(operand & 255) >> k & 1) == 0, operand >> 8);
                case Codes.BBS -> goIf((board.read(operand & 255) >> k & 1) != 0, operand >> 8);
                default -> goIf(true, operand);
            }
        }

        private void goIf(boolean taken, int distance) {
            if (!taken) {
                return;
            }
            int following = pc;
            pc = pc + (byte) distance & 0xFFFF;
            spent += pc >> 8 == following >> 8 ? 1 : 2;
        }

        private void jump(int operation, int at) {
            switch (operation) {
                case Codes.JMP -> pc = at;
                case Codes.JMI -> pc = wordAt(at);
                case Codes.JSR -> {
                    int last = pc - 1 & 0xFFFF;
                    push(last >> 8);
                    push(last & 255);
                    pc = at;
                }
                case Codes.RTS -> {
                    int low = pull();
                    pc = (low | pull() << 8) + 1 & 0xFFFF;
                }
                case Codes.RTI -> {
                    p = pull() | ALWAYS;
                    int low = pull();
                    pc = low | pull() << 8;
                }
                default -> {
                    // The byte behind the code of BRK is skipped unread.
                    pc = pc + 1 & 0xFFFF;
                    interrupt(IRQ_VECTOR, p);
                }
            }
        }

        private void push(int value) {
            board.write(STACK + s, value);
            s = s - 1 & 255;
        }

        private int pull() {
            s = s + 1 & 255;
            return board.read(STACK + s);
        }

        private void mark(int flag, boolean on) {
            p = on ? p | flag : p & ~flag;
        }

        /** The byte of a result, by which N and Z are set. */
        private int shown(int result) {
            int value = result & 255;
            p = p & ~(N | Z) | value & N | (value == 0 ? Z : 0);
            return value;
        }
    }
}
