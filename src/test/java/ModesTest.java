/** Promise 4: where each mode reads and writes; the stack; jumps. */
public final class ModesTest {
    public static void main(String[] args) {
        loads();
        goingRound();
        stores();
        indexRegisters();
        stack();
        jumps();
        Check.end();
    }

    /** A machine about to carry out the code, with X 3, Y 5 and pointers at 0x40 (0x1234) and 0x43 (0x2345). */
    private static BoardMachine at(int... code) {
        BoardMachine m = new BoardMachine();
        Check.load(m, 0x200, code);
        m.load(0x40, 0x3412, 2);
        m.load(0x43, 0x4523, 2);
        m.set(Check.PC, 0x200);
        m.set(Check.X, 3);
        m.set(Check.Y, 5);
        return m;
    }

    private static void reads(String mode, int from, int... code) {
        BoardMachine m = at(code);
        m.load(from, 0x99, 1);
        m.step();
        Check.due("LDA " + mode, m.register(Check.A), 0x99);
    }

    private static void loads() {
        BoardMachine m = at(0xA9, 0x99);
        m.step();
        Check.due("LDA IMM", m.register(Check.A), 0x99);
        reads("ZP", 0x50, 0xA5, 0x50);
        reads("ZX", 0x53, 0xB5, 0x50);
        reads("ABS", 0x3456, 0xAD, 0x56, 0x34);
        reads("AX", 0x3459, 0xBD, 0x56, 0x34);
        reads("AY", 0x345B, 0xB9, 0x56, 0x34);
        reads("IX", 0x2345, 0xA1, 0x40);
        reads("IY", 0x1239, 0xB1, 0x40);
        reads("IP", 0x1234, 0xB2, 0x40);
        reads("AX, crossing", 0x3501, 0xBD, 0xFE, 0x34);
    }

    private static void goingRound() {
        reads("ZX round", 0x02, 0xB5, 0xFF);
        reads("AX round", 0x01, 0xBD, 0xFE, 0xFF);
        reads("AY round", 0x04, 0xB9, 0xFF, 0xFF);
        BoardMachine m = at(0xA1, 0xFC);
        m.load(0xFF, 0x78, 1);
        m.load(0x00, 0x56, 1);
        m.load(0x5678, 0x99, 1);
        m.step();
        Check.due("LDA IX, the word's second byte at 0", m.register(Check.A), 0x99);
        for (int code : new int[] {0xB1, 0xB2}) {
            BoardMachine n = at(code, 0xFF);
            n.set(Check.Y, 0);
            n.load(0xFF, 0x78, 1);
            n.load(0x00, 0x56, 1);
            n.load(0x5678, 0x99, 1);
            n.step();
            Check.due("LDA " + code + ", the word's second byte at 0", n.register(Check.A), 0x99);
        }
        BoardMachine y = at(0xB1, 0x40);
        y.load(0x40, 0xFEFF, 2);
        y.load(0x03, 0x99, 1);
        Check.due("LDA IY round: crossing", y.step(), 6);
        Check.due("LDA IY round", y.register(Check.A), 0x99);
        BoardMachine pc = new BoardMachine();
        pc.load(0xFFFF, 0xAD, 1);
        pc.load(0, 0x5634, 2);
        pc.load(0x3456, 0x99, 1);
        pc.set(Check.PC, 0xFFFF);
        pc.step();
        Check.due("LDA ABS, PC going round", pc.register(Check.A), 0x99);
        Check.due("PC", pc.register(Check.PC), 2);
    }

    private static void writes(String call, int to, int value, int... code) {
        BoardMachine m = at(code);
        m.load(to, 0x11, 1);
        m.set(Check.A, 0x99);
        m.set(Check.P, 0xC3);
        m.step();
        Check.due(call, m.look(to), value);
        Check.due(call + ": P", m.register(Check.P), 0xF3);
    }

    private static void stores() {
        writes("STA ZP", 0x50, 0x99, 0x85, 0x50);
        writes("STA ZX", 0x53, 0x99, 0x95, 0x50);
        writes("STA ABS", 0x3456, 0x99, 0x8D, 0x56, 0x34);
        writes("STA AX", 0x3459, 0x99, 0x9D, 0x56, 0x34);
        writes("STA AY", 0x345B, 0x99, 0x99, 0x56, 0x34);
        writes("STA IX", 0x2345, 0x99, 0x81, 0x40);
        writes("STA IY", 0x1239, 0x99, 0x91, 0x40);
        writes("STA IP", 0x1234, 0x99, 0x92, 0x40);
        writes("STX ZP", 0x50, 3, 0x86, 0x50);
        writes("STX ZY", 0x55, 3, 0x96, 0x50);
        writes("STX ABS", 0x3456, 3, 0x8E, 0x56, 0x34);
        writes("STY ZP", 0x50, 5, 0x84, 0x50);
        writes("STY ZX", 0x53, 5, 0x94, 0x50);
        writes("STY ABS", 0x3456, 5, 0x8C, 0x56, 0x34);
        writes("STZ ZP", 0x50, 0, 0x64, 0x50);
        writes("STZ ZX", 0x53, 0, 0x74, 0x50);
        writes("STZ ABS", 0x3456, 0, 0x9C, 0x56, 0x34);
        writes("STZ AX", 0x3459, 0, 0x9E, 0x56, 0x34);
    }

    private static void indexRegisters() {
        int[][] x = {{0xA6, 0x50, 0, 0x50}, {0xB6, 0x50, 0, 0x55}, {0xAE, 0x56, 0x34, 0x3456}, {0xBE, 0x56, 0x34, 0x345B}};
        for (int[] row : x) {
            BoardMachine m = at(row[0], row[1], row[2]);
            m.load(row[3], 0x99, 1);
            m.step();
            Check.due("LDX " + row[0], m.register(Check.X), 0x99);
        }
        int[][] y = {{0xA4, 0x50, 0, 0x50}, {0xB4, 0x50, 0, 0x53}, {0xAC, 0x56, 0x34, 0x3456}, {0xBC, 0x56, 0x34, 0x3459}};
        for (int[] row : y) {
            BoardMachine m = at(row[0], row[1], row[2]);
            m.load(row[3], 0x99, 1);
            m.step();
            Check.due("LDY " + row[0], m.register(Check.Y), 0x99);
        }
    }

    private static void stack() {
        BoardMachine m = Check.with(0x48, 0xDA, 0x5A, 0x08, 0x68, 0xFA, 0x7A, 0x28);
        m.set(Check.A, 1);
        m.set(Check.X, 2);
        m.set(Check.Y, 0);
        m.set(Check.P, 0x80);
        m.set(Check.S, 1);
        Check.due("PHP", Check.steps(m, 4), 3);
        Check.due("S went round", m.register(Check.S), 0xFD);
        int[] places = {0x101, 0x100, 0x1FF, 0x1FE};
        int[] values = {1, 2, 0, 0xB0};
        for (int i = 0; i < 4; i++) {
            Check.due("pushed " + i, m.look(places[i]), values[i]);
        }
        Check.due("PLA", m.step(), 4);
        Check.due("A", m.register(Check.A), 0xB0);
        Check.due("P", m.register(Check.P), 0xB0);
        m.step();
        Check.due("X", m.register(Check.X), 0);
        Check.due("P", m.register(Check.P), 0x32);
        m.step();
        Check.due("Y", m.register(Check.Y), 2);
        Check.due("P", m.register(Check.P), 0x30);
        Check.due("PLP", m.step(), 4);
        Check.due("P by PLP", m.register(Check.P), 0x31);
        Check.due("S", m.register(Check.S), 1);
    }

    private static void jumps() {
        BoardMachine m = at(0x4C, 0x34, 0x12);
        m.step();
        Check.due("JMP", m.register(Check.PC), 0x1234);
        m = at(0x6C, 0x40, 0x00);
        m.step();
        Check.due("JMP to a word", m.register(Check.PC), 0x1234);
        m = at(0x6C, 0xFF, 0x30);
        m.load(0x30FF, 0x7856, 2);
        m.step();
        Check.due("JMP to a word over the end of an upper byte", m.register(Check.PC), 0x5678);
        m = at(0x6C, 0xFF, 0xFF);
        m.load(0xFFFF, 0x78, 1);
        m.load(0, 0x56, 1);
        m.step();
        Check.due("JMP to a word that goes round", m.register(Check.PC), 0x5678);
        m = at(0x7C, 0x40, 0x00);
        m.step();
        Check.due("JMP to a word by X", m.register(Check.PC), 0x2345);
        m = at(0x7C, 0xFE, 0xFF);
        m.load(1, 0x7856, 2);
        Check.due("JMP by X going round", m.step(), 6);
        Check.due("PC", m.register(Check.PC), 0x5678);
        m = Check.with(0x20, 0x00, 0xD0, 0xE8);
        m.load(0xD000, 0x60, 1);
        Check.due("JSR", m.step(), 6);
        Check.due("PC", m.register(Check.PC), 0xD000);
        Check.due("pushed, upper", m.look(0x1FD), 0xC0);
        Check.due("pushed, lower", m.look(0x1FC), 0x02);
        Check.due("RTS", m.step(), 6);
        Check.due("PC behind RTS", m.register(Check.PC), 0xC003);
        Check.due("S behind RTS", m.register(Check.S), 0xFD);
        BoardMachine round = Check.with(0x60);
        round.load(0x1FE, 0xFFFF, 2);
        round.step();
        Check.due("RTS goes round", round.register(Check.PC), 0);
        // JSR at the end of addresses: the address of its last byte is 0.
        BoardMachine jsr = new BoardMachine();
        jsr.load(0xFFFE, 0x2034, 2);
        jsr.load(0, 0x12, 1);
        jsr.set(Check.PC, 0xFFFE);
        jsr.set(Check.S, 0xFF);
        jsr.step();
        Check.due("JSR over the end", jsr.register(Check.PC), 0x1234);
        Check.due("pushed, upper", jsr.look(0x1FF), 0);
        Check.due("pushed, lower", jsr.look(0x1FE), 0);
    }
}
