/** Promise 4: what the codes that reckon make of A, of flags and of memory. */
public final class ArithmeticTest {
    private static final int C = 1;
    private static final int Z = 2;
    private static final int D = 8;
    private static final int V = 64;
    private static final int N = 128;

    private static BoardMachine m = new BoardMachine();
    private static int rounds = 0;

    public static void main(String[] args) {
        binary();
        decimal();
        decimalEdges();
        logic();
        comparing();
        shifts();
        counting();
        bits();
        moves();
        flags();
        Check.end();
    }

    /** A new object now and then: of one, 512 calls are promised. */
    private static void renew() {
        rounds++;
        if (rounds % 4 == 0) {
            m = new BoardMachine();
        }
    }

    /** A, P behind a code of two bytes at 0x200. */
    private static void two(int code, int b, int a, int p) {
        m.load(0x200, code << 8 | b, 2);
        m.set(Check.PC, 0x200);
        m.set(Check.A, a);
        m.set(Check.P, p);
        m.step();
    }

    private static void due(String call, int a, int p) {
        Check.due(call + ": A", m.register(Check.A), a);
        Check.due(call + ": P", m.register(Check.P), p | 48);
    }

    private static int nz(int v) {
        return (v == 0 ? Z : 0) | (v >= 128 ? N : 0);
    }

    private static void binary() {
        for (int a = 0; a < 256; a++) {
            for (int it = 0; it < 256; it += 3) {
                for (int c = 0; c < 2; c++) {
                    renew();
                    int sum = a + it + c;
                    int signed = (byte) a + (byte) it + c;
                    int out = sum % 256;
                    int p = nz(out) | (sum > 255 ? C : 0) | (signed < -128 || signed > 127 ? V : 0);
                    two(0x69, it, a, c);
                    due("ADC of " + a + ", " + it + ", " + c, out, p);
                    int less = a - it - 1 + c;
                    int signedLess = (byte) a - (byte) it - 1 + c;
                    int left = less & 255;
                    p = nz(left) | (less >= 0 ? C : 0) | (signedLess < -128 || signedLess > 127 ? V : 0);
                    two(0xE9, it, a, c | V | Z | N);
                    due("SBC of " + a + ", " + it + ", " + c, left, p);
                }
            }
        }
    }

    private static int bcd(int n) {
        return n / 10 * 16 + n % 10;
    }

    private static void decimal() {
        for (int a = 0; a < 100; a++) {
            for (int it = 0; it < 100; it++) {
                for (int c = 0; c < 2; c++) {
                    renew();
                    int sum = a + it + c;
                    two(0x69, bcd(it), bcd(a), D | c);
                    String call = "decimal " + a + " + " + it + " + " + c;
                    Check.due(call, m.register(Check.A), bcd(sum % 100));
                    Check.due(call + ": C, N, Z", m.register(Check.P) & (C | N | Z | D),
                            D | nz(bcd(sum % 100)) | (sum > 99 ? C : 0));
                    int less = a - it - 1 + c;
                    int left = bcd(Math.floorMod(less, 100));
                    two(0xE9, bcd(it), bcd(a), D | c);
                    call = "decimal " + a + " - " + it + " - 1 + " + c;
                    Check.due(call, m.register(Check.A), left);
                    Check.due(call + ": C, N, Z", m.register(Check.P) & (C | N | Z | D),
                            D | nz(left) | (less >= 0 ? C : 0));
                }
            }
        }
    }

    /** By hand, from the document's words; digits above 9 among them. */
    private static void decimalEdges() {
        two(0x69, 0x46, 0x58, D | C);
        due("0x58 + 0x46 + 1", 0x05, D | C | V);
        two(0x69, 0x34, 0x12, D);
        due("0x12 + 0x34", 0x46, D);
        two(0x69, 0x26, 0x15, D);
        due("0x15 + 0x26", 0x41, D);
        two(0x69, 0x92, 0x81, D);
        due("0x81 + 0x92", 0x73, D | C | V);
        two(0x69, 0x01, 0x99, D);
        due("0x99 + 0x01", 0x00, D | C | Z);
        two(0x69, 0x0F, 0x0F, D);
        due("0x0F + 0x0F: l is 0x14", 0x14, D);
        two(0x69, 0xFF, 0xFF, D | C);
        due("0xFF + 0xFF + 1: s is 0x1F5, then 0x255", 0x55, D | C);
        two(0x69, 0x00, 0x9A, D);
        due("0x9A + 0: s is 0xA0, then 0x100", 0x00, D | C | Z);
        two(0x69, 0x0A, 0x8F, D);
        due("0x8F + 0x0A: l is 0x1F, s is 0x9F, not above it", 0x9F, D | N);
        two(0xE9, 0x01, 0x00, D | C);
        due("0x00 - 0x01", 0x99, D | N);
        two(0xE9, 0x12, 0x46, D | C);
        due("0x46 - 0x12", 0x34, D | C);
        two(0xE9, 0x13, 0x40, D | C);
        due("0x40 - 0x13", 0x27, D | C);
        two(0xE9, 0x02, 0x32, D);
        due("0x32 - 0x02 - 1", 0x29, D | C);
        two(0xE9, 0x01, 0x80, D | C);
        due("0x80 - 0x01", 0x79, D | C | V);
        two(0xE9, 0x0F, 0x00, D);
        due("0x00 - 0x0F - 1: -16, less 0x60, less 6", 0x8A, D | N);
    }

    private static void logic() {
        for (int a = 0; a < 256; a += 5) {
            for (int it = 0; it < 256; it += 3) {
                renew();
                two(0x09, it, a, V | C);
                due("ORA of " + a + ", " + it, a | it, nz(a | it) | V | C);
                two(0x29, it, a, 0);
                due("AND of " + a + ", " + it, a & it, nz(a & it));
                two(0x49, it, a, 255);
                due("EOR of " + a + ", " + it, a ^ it, nz(a ^ it) | 255 & ~(N | Z));
                two(0x89, it, a, N | V);
                due("BIT IMM of " + a + ", " + it, a, N | V | ((a & it) == 0 ? Z : 0));
                m.load(0x10, it, 1);
                two(0x24, 0x10, a, it % 2 == 0 ? C : C | N | V | Z);
                due("BIT of " + a + ", " + it, a, C | it & (N | V) | ((a & it) == 0 ? Z : 0));
            }
        }
        for (int it = 0; it < 256; it++) {
            renew();
            two(0xA9, it, 1, C);
            due("LDA of " + it, it, nz(it) | C);
            two(0xA2, it, 1, 0);
            due("LDX of " + it, 1, nz(it));
            Check.due("X", m.register(Check.X), it);
            two(0xA0, it, 1, 0);
            due("LDY of " + it, 1, nz(it));
            Check.due("Y", m.register(Check.Y), it);
        }
    }

    private static void comparing() {
        int[] codes = {0xC9, 0xE0, 0xC0};
        for (int register = 0; register < 3; register++) {
            for (int held = 0; held < 256; held += 3) {
                for (int it = 0; it < 256; it++) {
                    renew();
                    m.set(register, held);
                    two(codes[register], it, register == 0 ? held : 7, V | D);
                    int p = V | D | nz(held - it & 255) | (held >= it ? C : 0);
                    due("comparing " + register + " of " + held + ", " + it, register == 0 ? held : 7, p);
                    Check.due("the register", m.register(register), held);
                }
            }
        }
    }

    private static void shifts() {
        int[] codes = {0x0A, 0x2A, 0x4A, 0x6A};
        int[] zeroPage = {0x06, 0x26, 0x46, 0x66};
        for (int i = 0; i < 4; i++) {
            for (int v = 0; v < 256; v++) {
                for (int c = 0; c < 2; c++) {
                    renew();
                    int in = i % 2 == 0 ? 0 : c;
                    int out = i < 2 ? (2 * v & 255) + in : v / 2 + 128 * in;
                    int leaves = i < 2 ? v / 128 : v % 2;
                    two(codes[i], 0, v, c | V);
                    due("shift " + i + " of " + v + ", " + c, out, nz(out) | leaves | V);
                    m.load(0x20, v, 1);
                    two(zeroPage[i], 0x20, 9, c);
                    due("shift of memory", 9, nz(out) | leaves);
                    Check.due("memory behind shift " + i, m.look(0x20), out);
                }
            }
        }
    }

    private static void counting() {
        for (int v = 0; v < 256; v++) {
            renew();
            int up = v + 1 & 255;
            int down = v - 1 & 255;
            two(0x1A, 0, v, C);
            due("INC A", up, nz(up) | C);
            two(0x3A, 0, v, C);
            due("DEC A", down, nz(down) | C);
            m.load(0x20, v, 1);
            two(0xE6, 0x20, 3, 0);
            due("INC", 3, nz(up));
            Check.due("memory behind INC", m.look(0x20), up);
            two(0xC6, 0x20, 3, 0);
            due("DEC", 3, nz(v));
            Check.due("memory behind DEC", m.look(0x20), v);
            int[] codes = {0xE8, 0xCA, 0xC8, 0x88};
            for (int i = 0; i < 4; i++) {
                int register = i < 2 ? Check.X : Check.Y;
                int want = i % 2 == 0 ? up : down;
                m.set(register, v);
                two(codes[i], 0, 3, C);
                due("code " + codes[i], 3, nz(want) | C);
                Check.due("register behind it", m.register(register), want);
            }
        }
    }

    private static void bits() {
        for (int a = 0; a < 256; a += 7) {
            for (int v = 0; v < 256; v += 5) {
                renew();
                m.load(0x30, v, 1);
                two(0x04, 0x30, a, N | V | C);
                due("TSB", a, N | V | C | ((a & v) == 0 ? Z : 0));
                Check.due("memory behind TSB", m.look(0x30), a | v);
                m.load(0x30, v, 1);
                two(0x14, 0x30, a, 0);
                due("TRB", a, (a & v) == 0 ? Z : 0);
                Check.due("memory behind TRB", m.look(0x30), v & ~a);
            }
        }
        for (int k = 0; k < 8; k++) {
            renew();
            m.load(0x30, 255, 1);
            two(0x07 + 16 * k, 0x30, 1, 0xCF);
            due("RMB", 1, 0xCF);
            Check.due("memory behind RMB " + k, m.look(0x30), 255 - (1 << k));
            m.load(0x30, 0, 1);
            two(0x87 + 16 * k, 0x30, 1, 0);
            due("SMB", 1, 0);
            Check.due("memory behind SMB " + k, m.look(0x30), 1 << k);
        }
    }

    private static void moves() {
        int[][] moves = {{0xAA, 0, 1}, {0xA8, 0, 2}, {0x8A, 1, 0}, {0x98, 2, 0}, {0xBA, 3, 1}, {0x9A, 1, 3}};
        for (int[] move : moves) {
            for (int v : new int[] {0, 1, 127, 128, 255}) {
                renew();
                for (int i = 0; i < 4; i++) {
                    m.set(i, 77);
                }
                m.set(move[1], v);
                m.set(Check.P, C | V);
                m.load(0x200, move[0], 1);
                m.set(Check.PC, 0x200);
                Check.due("move " + move[0], m.step(), 2);
                for (int i = 0; i < 4; i++) {
                    Check.due("register " + i, m.register(i), i == move[1] || i == move[2] ? v : 77);
                }
                Check.due("P", m.register(Check.P), 48 | C | V | (move[0] == 0x9A ? 0 : nz(v)));
            }
        }
    }

    private static void flags() {
        int[] codes = {0x18, 0x58, 0xB8, 0xD8};
        int[] flags = {C, 4, V, D};
        for (int i = 0; i < 4; i++) {
            renew();
            two(codes[i], 0, 5, 255);
            due("code " + codes[i], 5, 255 - flags[i]);
        }
        int[] setting = {0x38, 0x78, 0xF8};
        int[] set = {C, 4, D};
        for (int i = 0; i < 3; i++) {
            renew();
            two(setting[i], 0, 5, 0);
            due("code " + setting[i], 5, set[i]);
        }
        two(0xEA, 0, 5, N | C);
        due("NOP", 5, N | C);
    }
}
