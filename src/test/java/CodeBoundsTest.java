/** The sentences of the table of codes on what they make of registers, flags and memory: each at its bounds. */
public final class CodeBoundsTest {
    private static final int C = 1;
    private static final int Z = 2;
    private static final int D = 8;
    private static final int V = 64;
    private static final int N = 128;

    public static void main(String[] args) {
        Check.sentence("IMM 0x09 + 0x20 * k for k 0 .. 3, 5 .. 7", CodeBoundsTest::rowsOfEight);
        Check.sentence("STA: those (not IMM) with k 4; AX, AY 5, IY 6 always", CodeBoundsTest::staCycles);
        Check.sentence("9E AX (5 always)", CodeBoundsTest::stzCycles);
        Check.sentence("CMP, CPX, CPY: C whether the register is not below it, N, Z by the difference",
                CodeBoundsTest::comparing);
        Check.sentence("BIT: Z whether A and it have no bit together; in all modes but IMM also N, V its bits 7, 6",
                CodeBoundsTest::bit);
        Check.sentence("V whether A and it have one sign and s & 255 another one", CodeBoundsTest::addingSigns);
        Check.sentence("C whether s is above 255, A becomes s & 255, sets N, Z", CodeBoundsTest::addingCarry);
        Check.sentence("if l is above 9: l = (l + 6 & 15) + 16", CodeBoundsTest::decimalLower);
        Check.sentence("if s is above 0x9F: s = s + 0x60; C whether it is above 255", CodeBoundsTest::decimalUpper);
        Check.sentence("V as said with this s", CodeBoundsTest::decimalSign);
        Check.sentence("A becomes s & 255, sets N, Z; 1 cycle more", CodeBoundsTest::decimalCycles);
        Check.sentence("SBC, D 0: as ADC of 255 - it", CodeBoundsTest::subtracting);
        Check.sentence("D 1: C and V as so", CodeBoundsTest::decimalBorrow);
        Check.sentence("s = A - it + C - 1; if s is below 0: s = s - 0x60", CodeBoundsTest::decimalBelow);
        Check.sentence("if l is below 0: s = s - 6", CodeBoundsTest::decimalLowerBelow);
        Check.sentence("AX 6 and 1 as said, but INC, DEC 7 always", CodeBoundsTest::changingCycles);
        Check.sentence("shifts C: the bit that leaves; ROL, ROR bring the old C in, ASL, LSR 0",
                CodeBoundsTest::shifts);
        Check.sentence("Z whether A and it have no bit together, then A's bits become 1 in it", CodeBoundsTest::tsb);
        Check.sentence("TRB 0x14 ZP, 1C ABS: become 0", CodeBoundsTest::trb);
        Check.sentence("RMB 0x07 + 0x10 * k, SMB 0x87 + 0x10 * k, k 0 .. 7, ZP, 5: bit k becomes 0, 1",
                CodeBoundsTest::bits);
        Check.sentence("(set N, Z by what the register becomes), TXS 9A", CodeBoundsTest::moves);
        Check.sentence("Of one byte, 2 cycles", CodeBoundsTest::oneByte);
        Check.sentence("All other codes do nothing", CodeBoundsTest::doingNothing);
        Check.sentence("those that end with 3 or B (but CB, DB): one, 1", CodeBoundsTest::oneCycle);
        Check.end();
    }

    /** A code of two bytes with A and P: what A, P and the cycles are behind it. */
    private static void two(String name, int code, int b, int a, int p, int wantA, int wantP, int cycles) {
        BoardMachine m = Check.at(0x200, code, b);
        m.set(Check.A, a);
        m.set(Check.P, p);
        String call = name + " of A " + Integer.toHexString(a) + ", " + Integer.toHexString(b) + ", P " + p;
        Check.due(call + ": cycles", m.step(), cycles);
        Check.due(call + ": A", m.register(Check.A), wantA);
        Check.due(call + ": P", m.register(Check.P), wantP | 48);
    }

    private static void adc(int a, int b, int p, int wantA, int wantP) {
        two("ADC", 0x69, b, a, p, wantA, wantP, (p & D) != 0 ? 3 : 2);
    }

    private static void sbc(int a, int b, int p, int wantA, int wantP) {
        two("SBC", 0xE9, b, a, p, wantA, wantP, (p & D) != 0 ? 3 : 2);
    }

    private static void rowsOfEight() {
        // By IMM, of A 0x0F and 0x3C, with C: k 0, 1, 2, 3, 5, 6, 7; 4 would be STA and is BIT.
        two("ORA", 0x09, 0x3C, 0x0F, C, 0x3F, C, 2);
        two("AND", 0x29, 0x3C, 0x0F, C, 0x0C, C, 2);
        two("EOR", 0x49, 0x3C, 0x0F, C, 0x33, C, 2);
        two("ADC", 0x69, 0x3C, 0x0F, C, 0x4C, 0, 2);
        two("BIT", 0x89, 0x3C, 0x0F, C, 0x0F, C, 2);
        two("LDA", 0xA9, 0x3C, 0x0F, C, 0x3C, C, 2);
        two("CMP", 0xC9, 0x3C, 0x0F, C, 0x0F, N, 2);
        two("SBC", 0xE9, 0x3C, 0x0F, C, 0xD3, N, 2);
    }

    private static void stores(String name, int cycles, int x, int y, int to, int value, int... code) {
        BoardMachine m = Check.at(0x200, code);
        m.load(0x40, 0xF012, 2);
        m.load(to, 0x11, 1);
        m.set(Check.A, 0x99);
        m.set(Check.X, x);
        m.set(Check.Y, y);
        Check.due(name + " to " + to, m.step(), cycles);
        Check.due(name + " to " + to + ": the byte", m.look(to), value);
    }

    private static void staCycles() {
        stores("STA AX", 5, 0x0F, 0, 0x12FF, 0x99, 0x9D, 0xF0, 0x12);
        stores("STA AX", 5, 0x10, 0, 0x1300, 0x99, 0x9D, 0xF0, 0x12);
        stores("STA AY", 5, 0, 0x0F, 0x12FF, 0x99, 0x99, 0xF0, 0x12);
        stores("STA AY", 5, 0, 0x10, 0x1300, 0x99, 0x99, 0xF0, 0x12);
        stores("STA IY", 6, 0, 0x0F, 0x12FF, 0x99, 0x91, 0x40);
        stores("STA IY", 6, 0, 0x10, 0x1300, 0x99, 0x91, 0x40);
        stores("STA AX round", 5, 0xFF, 0, 0x00FE, 0x99, 0x9D, 0xFF, 0xFF);
        stores("STA AY round", 5, 0, 0xFF, 0x00FE, 0x99, 0x99, 0xFF, 0xFF);
    }

    private static void stzCycles() {
        stores("STZ AX", 5, 0x0F, 0, 0x12FF, 0, 0x9E, 0xF0, 0x12);
        stores("STZ AX", 5, 0x10, 0, 0x1300, 0, 0x9E, 0xF0, 0x12);
        stores("STZ AX round", 5, 0xFF, 0, 0x00FE, 0, 0x9E, 0xFF, 0xFF);
    }

    private static void comparing() {
        int[][] codes = {{0xC9, Check.A}, {0xE0, Check.X}, {0xC0, Check.Y}};
        // The register, it, the flags that are due.
        int[][] rows = {
            {5, 4, C}, {5, 5, C | Z}, {5, 6, N}, {0, 0, C | Z}, {0, 1, N}, {0, 255, 0}, {255, 0, C | N},
            {255, 254, C}, {255, 255, C | Z}, {254, 255, N}, {128, 0, C | N}, {128, 1, C}, {0, 128, N}, {127, 255, N},
        };
        for (int[] code : codes) {
            for (int[] row : rows) {
                for (int p : new int[] {0, V | D, C | Z | N}) {
                    BoardMachine m = Check.at(0x200, code[0], row[1]);
                    m.set(code[1], row[0]);
                    m.set(Check.P, p);
                    m.step();
                    String call = "comparing by " + code[0] + " " + row[0] + " and " + row[1] + " with P " + p;
                    Check.due(call, m.register(Check.P), p & (V | D) | row[2] | 48);
                    Check.due(call + ": the register", m.register(code[1]), row[0]);
                }
            }
        }
    }

    private static void bit() {
        int[][] codes = {{0x24, 0x40}, {0x34, 0x40}, {0x2C, 0x40}, {0x3C, 0x40}};
        for (int v : new int[] {0x00, 0x3F, 0x40, 0x80, 0xC0, 0xFF}) {
            for (int a : new int[] {0x00, 0x3F, 0x40, 0xFF}) {
                int z = (a & v) == 0 ? Z : 0;
                two("BIT IMM", 0x89, v, a, C | N, a, C | N | z, 2);
                two("BIT IMM", 0x89, v, a, V | Z, a, V | z, 2);
                for (int[] code : codes) {
                    for (int p : new int[] {C, N | V | Z}) {
                        BoardMachine m = Check.at(0x200, code);
                        m.load(0x40, v, 1);
                        m.set(Check.A, a);
                        m.set(Check.P, p);
                        m.step();
                        Check.due("BIT " + code[0] + " of A " + a + ", " + v, m.register(Check.P),
                                48 | p & C | z | v & (N | V));
                        Check.due("A", m.register(Check.A), a);
                    }
                }
            }
        }
    }

    private static void addingSigns() {
        adc(127, 0, 0, 127, 0);
        adc(127, 1, 0, 128, V | N);
        adc(127, 0, C, 128, V | N);
        adc(126, 1, 0, 127, 0);
        adc(128, 0, 0, 128, N);
        adc(128, 255, 0, 127, V | C);
        adc(128, 255, C, 128, N | C);
        adc(129, 255, 0, 128, N | C);
        adc(128, 128, 0, 0, V | C | Z);
        adc(127, 127, C, 255, V | N);
        adc(127, 128, C, 0, C | Z);
        adc(127, 128, V, 255, N);
    }

    private static void addingCarry() {
        adc(255, 0, 0, 255, N);
        adc(255, 1, 0, 0, C | Z);
        adc(255, 0, C, 0, C | Z);
        adc(254, 1, 0, 255, N);
        adc(254, 1, C, 0, C | Z);
        adc(255, 255, C, 255, C | N);
        adc(0, 0, 0, 0, Z);
        adc(0, 0, C, 1, 0);
        adc(1, 1, 0, 2, 0);
    }

    private static void decimalLower() {
        adc(0x05, 0x04, D, 0x09, D);
        adc(0x05, 0x05, D, 0x10, D);
        adc(0x05, 0x04, D | C, 0x10, D);
        adc(0x09, 0x09, D | C, 0x19, D);
        adc(0x0F, 0x0F, D | C, 0x15, D);
        adc(0x0A, 0x00, D, 0x10, D);
        adc(0x09, 0x00, D, 0x09, D);
    }

    private static void decimalUpper() {
        adc(0x90, 0x09, D, 0x99, D | N);
        adc(0x90, 0x10, D, 0x00, D | C | Z);
        adc(0x99, 0x00, D | C, 0x00, D | C | Z);
        adc(0x99, 0x01, D, 0x00, D | C | Z);
        adc(0x99, 0x99, D | C, 0x99, D | C | N | V);
        // Only digits above 9 make s just 0x9F.
        adc(0x8F, 0x0A, D, 0x9F, D | N);
        adc(0x8F, 0x1A, D, 0x0F, D | C);
        adc(0x80, 0x19, D, 0x99, D | N);
        adc(0x80, 0x20, D, 0x00, D | C | Z);
        adc(0xF0, 0xF0, D, 0x40, D | C);
    }

    private static void decimalSign() {
        // s ahead of + 0x60 is 0x79, 0x80, 0x9F and more.
        adc(0x40, 0x39, D, 0x79, D);
        adc(0x40, 0x40, D, 0x80, D | N | V);
        adc(0x39, 0x40, D | C, 0x80, D | N | V);
        adc(0x50, 0x50, D, 0x00, D | C | Z | V);
        adc(0x80, 0x80, D, 0x60, D | C | V);
        adc(0x90, 0x90, D, 0x80, D | C | N | V);
        adc(0x90, 0x10, D | V, 0x00, D | C | Z);
    }

    private static void decimalCycles() {
        // Beside IMM: ZP 4, AX 5 and with another upper byte 6; CMP and others take none more.
        two("ADC ZP", 0x65, 0x40, 0, D, 0, D | Z, 4);
        two("ADC ZP", 0x65, 0x40, 0, 0, 0, Z, 3);
        two("SBC ZP", 0xE5, 0x40, 0, D | C, 0, D | C | Z, 4);
        two("SBC ZP", 0xE5, 0x40, 0, C, 0, C | Z, 3);
        two("CMP ZP", 0xC5, 0x40, 0, D, 0, D | C | Z, 3);
        two("AND ZP", 0x25, 0x40, 0, D, 0, D | Z, 3);
        for (int code : new int[] {0x7D, 0xFD}) {
            for (int x : new int[] {0x0F, 0x10}) {
                for (int p : new int[] {0, D}) {
                    BoardMachine m = Check.at(0x200, code, 0xF0, 0x12);
                    m.set(Check.X, x);
                    m.set(Check.P, p);
                    Check.due("cycles of " + code + " with X " + x + ", P " + p, m.step(),
                            4 + (x == 0x10 ? 1 : 0) + (p == D ? 1 : 0));
                }
            }
        }
    }

    private static void subtracting() {
        sbc(5, 4, C, 1, C);
        sbc(5, 5, C, 0, C | Z);
        sbc(5, 6, C, 255, N);
        sbc(5, 4, 0, 0, C | Z);
        sbc(5, 5, 0, 255, N);
        sbc(0, 0, C, 0, C | Z);
        sbc(0, 255, C, 1, 0);
        sbc(0, 255, 0, 0, Z);
        sbc(127, 255, C, 128, N | V);
        sbc(127, 0, C, 127, C);
        sbc(128, 0, C, 128, C | N);
        sbc(128, 1, C, 127, C | V);
        sbc(128, 0, 0, 127, C | V);
        sbc(0, 128, C, 128, N | V);
        sbc(0, 127, C, 129, N);
        sbc(255, 255, C, 0, C | Z);
    }

    private static void decimalBorrow() {
        sbc(0x50, 0x50, D | C, 0x00, D | C | Z);
        sbc(0x50, 0x51, D | C, 0x99, D | N);
        sbc(0x50, 0x49, D, 0x00, D | C | Z);
        sbc(0x50, 0x50, D, 0x99, D | N);
        sbc(0x80, 0x01, D | C, 0x79, D | C | V);
        sbc(0x80, 0x00, D | C, 0x80, D | C | N);
        sbc(0x79, 0x80, D | C, 0x99, D | N | V);
        sbc(0x00, 0x79, D | C | V, 0x21, D);
    }

    private static void decimalBelow() {
        sbc(0x00, 0x00, D | C, 0x00, D | C | Z);
        sbc(0x00, 0x00, D, 0x99, D | N);
        sbc(0x10, 0x10, D | C, 0x00, D | C | Z);
        sbc(0x10, 0x20, D | C, 0x90, D | N);
        sbc(0x20, 0x10, D | C, 0x10, D | C);
        sbc(0x00, 0x99, D | C, 0x01, D);
        sbc(0x00, 0x99, D, 0x00, D | Z);
    }

    private static void decimalLowerBelow() {
        sbc(0x21, 0x01, D | C, 0x20, D | C);
        sbc(0x21, 0x02, D | C, 0x19, D | C);
        sbc(0x20, 0x00, D | C, 0x20, D | C);
        sbc(0x20, 0x00, D, 0x19, D | C);
        sbc(0x20, 0x01, D | C, 0x19, D | C);
        sbc(0x10, 0x0F, D, 0xFA, D | C | N);
        sbc(0x10, 0x0F, D | C, 0xFB, D | C | N);
    }

    private static void changingCycles() {
        int[] codes = {0x1E, 0x3E, 0x5E, 0x7E, 0xFE, 0xDE};
        for (int i = 0; i < codes.length; i++) {
            for (int x : new int[] {0x0F, 0x10, 0xFF}) {
                BoardMachine m = Check.at(0x200, codes[i], 0xF0, 0x12);
                m.set(Check.X, x);
                Check.due("cycles of " + codes[i] + " with X " + x, m.step(), i > 3 || x > 0x0F ? 7 : 6);
            }
            BoardMachine round = Check.at(0x200, codes[i], 0xFF, 0xFF);
            round.set(Check.X, 0x41);
            round.load(0x40, 0x42, 1);
            round.step();
            int[] want = {0x84, 0x84, 0x21, 0x21, 0x43, 0x41};
            Check.due("the byte behind " + codes[i] + " that goes round", round.look(0x40), want[i]);
        }
    }

    /** A shift of A and of memory alike. */
    private static void shift(int acc, int v, int c, int to, int p) {
        two("shift", acc, 0, v, c | V, to, p | V, 2);
        BoardMachine m = Check.at(0x200, acc - 4, 0x40);
        m.load(0x40, v, 1);
        m.set(Check.P, c | V);
        Check.due("shift of memory by " + (acc - 4), m.step(), 5);
        Check.due("shift of memory " + v + ": the byte", m.look(0x40), to);
        Check.due("shift of memory " + v + ": P", m.register(Check.P), p | V | 48);
    }

    private static void shifts() {
        for (int c = 0; c < 2; c++) {
            // ASL
            shift(0x0A, 0x80, c, 0x00, C | Z);
            shift(0x0A, 0x7F, c, 0xFE, N);
            shift(0x0A, 0xFF, c, 0xFE, C | N);
            shift(0x0A, 0x00, c, 0x00, Z);
            // ROL
            shift(0x2A, 0x80, c, c, C | (c == 0 ? Z : 0));
            shift(0x2A, 0x7F, c, 0xFE + c, N);
            shift(0x2A, 0xFF, c, 0xFE + c, C | N);
            shift(0x2A, 0x00, c, c, c == 0 ? Z : 0);
            // LSR
            shift(0x4A, 0x01, c, 0x00, C | Z);
            shift(0x4A, 0xFE, c, 0x7F, 0);
            shift(0x4A, 0xFF, c, 0x7F, C);
            shift(0x4A, 0x00, c, 0x00, Z);
            // ROR
            shift(0x6A, 0x01, c, 128 * c, C | (c == 0 ? Z : N));
            shift(0x6A, 0xFE, c, 0x7F + 128 * c, N * c);
            shift(0x6A, 0xFF, c, 0x7F + 128 * c, C | N * c);
            shift(0x6A, 0x00, c, 128 * c, c == 0 ? Z : N);
        }
    }

    private static void testAndChange(int code, int a, int v, int to, int p, int cycles) {
        for (int flags : new int[] {0, Z, N | V | C}) {
            BoardMachine m = Check.at(0x200, code, 0x40, 0x00);
            m.load(0x40, v, 1);
            m.set(Check.A, a);
            m.set(Check.P, flags);
            Check.due("cycles of " + code, m.step(), cycles);
            Check.due("the byte behind " + code + " of A " + a + ", " + v, m.look(0x40), to);
            Check.due("P", m.register(Check.P), flags & ~Z | p | 48);
            Check.due("A", m.register(Check.A), a);
        }
    }

    private static void tsb() {
        int[][] codes = {{0x04, 5}, {0x0C, 6}};
        for (int[] code : codes) {
            testAndChange(code[0], 0x0F, 0xF0, 0xFF, Z, code[1]);
            testAndChange(code[0], 0x1F, 0xF0, 0xFF, 0, code[1]);
            testAndChange(code[0], 0x00, 0xFF, 0xFF, Z, code[1]);
            testAndChange(code[0], 0xFF, 0x00, 0xFF, Z, code[1]);
            testAndChange(code[0], 0x80, 0x80, 0x80, 0, code[1]);
            testAndChange(code[0], 0x00, 0x00, 0x00, Z, code[1]);
        }
    }

    private static void trb() {
        int[][] codes = {{0x14, 5}, {0x1C, 6}};
        for (int[] code : codes) {
            testAndChange(code[0], 0x0F, 0xF0, 0xF0, Z, code[1]);
            testAndChange(code[0], 0x1F, 0xF0, 0xE0, 0, code[1]);
            testAndChange(code[0], 0x00, 0xFF, 0xFF, Z, code[1]);
            testAndChange(code[0], 0xFF, 0xFF, 0x00, 0, code[1]);
            testAndChange(code[0], 0x80, 0x80, 0x00, 0, code[1]);
            testAndChange(code[0], 0x00, 0x00, 0x00, Z, code[1]);
        }
    }

    private static void bits() {
        for (int k = 0; k < 8; k++) {
            for (int v : new int[] {0, 255, 1 << k, 255 - (1 << k)}) {
                for (int p : new int[] {0, 255 - 48}) {
                    changesBit(0x07 + 16 * k, v, v & ~(1 << k), p);
                    changesBit(0x87 + 16 * k, v, v | 1 << k, p);
                }
            }
        }
    }

    private static void changesBit(int code, int v, int to, int p) {
        BoardMachine m = Check.at(0x200, code, 0xFF);
        m.load(0xFF, v, 1);
        m.set(Check.X, 0x77);
        m.set(Check.Y, 0x77);
        m.set(Check.P, p);
        Check.due("cycles of " + code, m.step(), 5);
        Check.due("the byte behind " + code + " of " + v, m.look(0xFF), to);
        Check.due("P behind " + code, m.register(Check.P), p | 48);
    }

    private static void moves() {
        int[][] codes = {{0xAA, Check.A, Check.X}, {0xA8, Check.A, Check.Y}, {0x8A, Check.X, Check.A},
            {0x98, Check.Y, Check.A}, {0xBA, Check.S, Check.X}, {0x9A, Check.X, Check.S}};
        for (int[] code : codes) {
            for (int v : new int[] {0, 1, 127, 128, 255}) {
                for (int p : new int[] {0, N | Z | C}) {
                    BoardMachine m = Check.at(0x200, code[0]);
                    m.set(code[1], v);
                    m.set(code[2], 77);
                    m.set(Check.P, p);
                    Check.due("cycles of " + code[0], m.step(), 2);
                    Check.due("register behind " + code[0], m.register(code[2]), v);
                    Check.due("where it comes from", m.register(code[1]), v);
                    int set = p & C | (v == 0 ? Z : 0) | v & N;
                    Check.due("P behind " + code[0] + " of " + v, m.register(Check.P), (code[0] == 0x9A ? p : set) | 48);
                }
            }
        }
    }

    private static void oneByte() {
        int[] codes = {0xE8, 0xC8, 0xCA, 0x88, 0xAA, 0xA8, 0x8A, 0x98, 0xBA, 0x9A, 0x18, 0x38, 0x58, 0x78, 0xB8, 0xD8, 0xF8,
            0xEA, 0x0A, 0x2A, 0x4A, 0x6A, 0x1A, 0x3A};
        for (int code : codes) {
            for (int start : new int[] {0xFFFE, 0xFFFF}) {
                BoardMachine m = Check.at(start, code);
                Check.due("cycles of " + code, m.step(), 2);
                Check.due("PC behind " + code + " at " + start, m.register(Check.PC), start + 1 & 0xFFFF);
            }
        }
        int[][] stack = {{0x48, 3}, {0xDA, 3}, {0x5A, 3}, {0x08, 3}, {0x68, 4}, {0xFA, 4}, {0x7A, 4}, {0x28, 4}};
        for (int[] code : stack) {
            BoardMachine m = Check.at(0xFFFF, code[0]);
            Check.due("cycles of " + code[0], m.step(), code[1]);
            Check.due("PC behind " + code[0] + " at 65535", m.register(Check.PC), 0);
        }
        // A flag alone changes, from either state.
        int[][] flags = {{0x18, C, 0}, {0x38, C, C}, {0x58, 4, 0}, {0x78, 4, 4}, {0xB8, V, 0}, {0xD8, D, 0}, {0xF8, D, D}};
        for (int[] code : flags) {
            for (int p : new int[] {0, code[1], 255 - code[1], 255}) {
                BoardMachine m = Check.at(0x300, code[0]);
                m.set(Check.P, p);
                m.step();
                Check.due("P " + p + " behind " + code[0], m.register(Check.P), p & ~code[1] | code[2] | 48);
            }
        }
    }

    private static void doesNothing(int code, int bytes, int cycles) {
        doesNothing(code, bytes, cycles, 0xCB);
        doesNothing(code, bytes, cycles, 0x04);
    }

    private static void doesNothing(int code, int bytes, int cycles, int p) {
        BoardMachine m = Check.at(0x7FFF, code, 0x10, 0xA0);
        int[] places = {0x00, 0x0F, 0x10, 0x11, 0x13F, 0x140, 0x141};
        for (int at : places) {
            m.load(at, 0x5A, 1);
        }
        m.receive(7);
        m.set(Check.A, 0x81);
        m.set(Check.X, 0xFF);
        m.set(Check.Y, 0xFF);
        m.set(Check.S, 0x40);
        m.set(Check.P, p);
        Check.due("cycles of " + code, m.step(), cycles);
        int[] want = {0x81, 0xFF, 0xFF, 0x40, p | 48, 0x7FFF + bytes};
        for (int i = 0; i < 6; i++) {
            Check.due("register(" + i + ") behind " + code, m.register(i), want[i]);
        }
        Check.due("bytes that wait behind " + code, m.count(3), 1);
        Check.due("bytes sent behind " + code, m.count(2), 0);
        Check.due("it waits behind " + code, m.count(10), 0);
        Check.due("it is stopped behind " + code, m.count(11), 0);
        Check.due("steps behind " + code, m.count(1), 1);
        Check.due("trace behind " + code, m.trace(0), 0x7FFF);
        Check.due("counter 1 behind " + code, m.count(5), 65535 - cycles);
        for (int at : places) {
            Check.due("look at " + at + " behind " + code, m.look(at), 0x5A);
        }
    }

    private static void doingNothing() {
        for (int code : new int[] {0x02, 0x22, 0x42, 0x62, 0x82, 0xC2, 0xE2}) {
            doesNothing(code, 2, 2);
        }
        doesNothing(0x44, 2, 3);
        for (int code : new int[] {0x54, 0xD4, 0xF4}) {
            doesNothing(code, 2, 4);
        }
        doesNothing(0x5C, 3, 8);
        doesNothing(0xDC, 3, 4);
        doesNothing(0xFC, 3, 4);
        doesNothing(0xEA, 1, 2);
    }

    private static void oneCycle() {
        for (int code = 0x03; code < 256; code += 8) {
            if (code != 0xCB && code != 0xDB) {
                doesNothing(code, 1, 1);
            }
        }
        BoardMachine wai = Check.at(0x200, 0xCB);
        Check.due("CB", wai.step(), 3);
        Check.due("CB waits", wai.count(10), 1);
        BoardMachine stp = Check.at(0x200, 0xDB);
        Check.due("DB", stp.step(), 3);
        Check.due("DB stops", stp.count(11), 1);
    }
}
