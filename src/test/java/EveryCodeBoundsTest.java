/**
 * The sentences of 'MODES' for each code of each mode that reads or writes a byte of memory: the addresses at which it
 * goes round, and those at which an upper byte changes. What lies elsewhere is 0, what lies at the address 0x99.
 */
public final class EveryCodeBoundsTest {
    private static final int A = 0x3C;
    private static final int IT = 0x99;
    private static final int C = 1;
    private static final int N = 128;
    private static final int V = 64;

    // Which code is of which name and mode: as the lists of the document say.
    private static final DocModel LISTS = new DocModel();

    public static void main(String[] args) {
        Check.sentence("IMM (2, 2): b itself", EveryCodeBoundsTest::immediate);
        Check.sentence("ZP (2, 3): the byte at b", () -> {
            every("ZP", 0, 0, 0x00, 0x77, 0x77, 0x00);
            every("ZP", 0, 0, 0xFF, 0x77, 0x77, 0xFF);
        });
        Check.sentence("ZX, ZY (2, 4): at b + X, b + Y (a byte)", EveryCodeBoundsTest::zeroPageIndexed);
        Check.sentence("ABS (3, 4): at w", () -> {
            for (int w : new int[] {0x0000, 0x00FF, 0x0100, 0x7FFF, 0x8000, 0x9FFF, 0xC000, 0xFFFF}) {
                every("ABS", 0, 0, w, 0x77, 0x77, w);
            }
        });
        Check.sentence("AX, AY (3, 4 and 1 if w and the address differ in their upper bytes): at w + X, w + Y",
                EveryCodeBoundsTest::absoluteIndexed);
        Check.sentence("IX (2, 6): at the word at b + X", () -> {
            for (int to : new int[] {0x0180, 0x9FFF, 0xC000}) {
                every("IX", to, 0xFE, 0xF0, 0x0E, 0x77, to);
                every("IX", to, 0xFF, 0xF0, 0x0F, 0x77, to);
                every("IX", to, 0x00, 0xF0, 0x10, 0x77, to);
            }
        });
        Check.sentence("IY (2, 5, and 1 as AX): at the word at b, + Y", () -> {
            for (int b : new int[] {0xFE, 0xFF, 0x00}) {
                every("IY", 0x12F0, b, b, 0x77, 0x0F, 0x12FF);
                every("IY", 0x12F0, b, b, 0x77, 0x10, 0x1300);
                every("IY", 0xFF80, b, b, 0x77, 0x7F, 0xFFFF);
            }
            every("IY", 0xFFFF, 0x40, 0x40, 0x77, 0x01, 0x0000);
        });
        Check.sentence("IP (2, 5): at the word at b", () -> {
            for (int to : new int[] {0x0180, 0x9FFF, 0xC000}) {
                for (int b : new int[] {0xFE, 0xFF, 0x00}) {
                    every("IP", to, b, b, 0x77, 0x77, to);
                }
            }
        });
        Check.end();
    }

    private static void immediate() {
        for (int code = 0; code < 256; code++) {
            String name = LISTS.name[code];
            if (!"IMM".equals(LISTS.mode[code]) || name.equals("NOP")) {
                continue;
            }
            for (int start : new int[] {0x0300, 0xFFFE, 0xFFFF}) {
                BoardMachine m = Check.at(start, code, IT);
                m.set(Check.A, A);
                m.set(Check.X, 0x77);
                m.set(Check.Y, 0x77);
                m.set(Check.P, C);
                String call = name + " IMM at " + Integer.toHexString(start);
                Check.due(call + ": cycles", m.step(), 2);
                Check.due(call + ": PC", m.register(Check.PC), start + 2 & 0xFFFF);
                Check.due(call + ": A", m.register(Check.A), accumulator(name));
                Check.due(call + ": X", m.register(Check.X), name.equals("LDX") ? IT : 0x77);
                Check.due(call + ": Y", m.register(Check.Y), name.equals("LDY") ? IT : 0x77);
                Check.due(call + ": P", m.register(Check.P), 48 | (name.equals("BIT") ? C : flags(name, 0x77, 0x77)));
            }
        }
    }

    private static void zeroPageIndexed() {
        int[][] rows = {{0xF0, 0x0F, 0xFF}, {0xF0, 0x10, 0x00}, {0xFF, 0x00, 0xFF}, {0xFF, 0xFF, 0xFE}};
        for (int[] row : rows) {
            every("ZX", 0, 0, row[0], row[1], 0x77, row[2]);
            every("ZY", 0, 0, row[0], 0x77, row[1], row[2]);
        }
    }

    private static void absoluteIndexed() {
        int[][] rows = {{0x12F0, 0x0F, 0x12FF}, {0x12F0, 0x10, 0x1300}, {0x1200, 0xFF, 0x12FF}, {0x1201, 0xFF, 0x1300},
            {0xFFF0, 0x0F, 0xFFFF}, {0xFFF0, 0x10, 0x0000}, {0xFFFF, 0xFF, 0x00FE}};
        for (int[] row : rows) {
            every("AX", 0, 0, row[0], row[1], 0x77, row[2]);
            every("AY", 0, 0, row[0], 0x77, row[1], row[2]);
        }
    }

    /** All codes of a mode with the operand, a word of memory at 0 .. 255, and index registers; the address is due. */
    private static void every(String mode, int word, int wordAt, int operand, int x, int y, int address) {
        for (int code = 0; code < 256; code++) {
            String name = LISTS.name[code];
            if (mode.equals(LISTS.mode[code]) && !name.equals("NOP") && !name.startsWith("J")) {
                one(code, name, mode, word, wordAt, operand, x, y, address);
            }
        }
    }

    private static void one(int code, String name, String mode, int word, int wordAt, int operand, int x, int y,
            int address) {
        boolean three = mode.startsWith("A");
        BoardMachine m = three ? Check.at(0x300, code, operand & 255, operand >> 8) : Check.at(0x300, code, operand);
        if (mode.startsWith("I")) {
            m.load(wordAt, word & 255, 1);
            m.load(wordAt + 1 & 255, word >> 8, 1);
        }
        m.load(address, IT, 1);
        m.set(Check.A, A);
        m.set(Check.X, x);
        m.set(Check.Y, y);
        m.set(Check.P, C);
        boolean crosses = (mode.equals("IY") ? word : operand) >> 8 != address >> 8 && "AX AY IY".contains(mode);
        String call = name + " " + mode + " to " + Integer.toHexString(address);
        Check.due(call + ": cycles", m.step(), cycles(name, mode, crosses));
        Check.due(call + ": PC", m.register(Check.PC), three ? 0x303 : 0x302);
        Check.due(call + ": A", m.register(Check.A), accumulator(name));
        Check.due(call + ": X", m.register(Check.X), name.equals("LDX") ? IT : x);
        Check.due(call + ": Y", m.register(Check.Y), name.equals("LDY") ? IT : y);
        Check.due(call + ": P", m.register(Check.P), 48 | flags(name, x, y));
        int written = written(name, code >> 4 & 7, x, y);
        Check.due(call + ": the byte", m.look(address), address >= 0xC000 ? IT : written);
    }

    private static boolean stores(String name) {
        return name.startsWith("ST");
    }

    private static boolean changes(String name) {
        return "ASL ROL LSR ROR INC DEC TSB TRB RMB SMB".contains(name);
    }

    private static int cycles(String name, String mode, boolean crosses) {
        if (changes(name)) {
            boolean always = name.equals("INC") || name.equals("DEC");
            return mode.equals("ZP") ? 5 : mode.equals("AX") && (always || crosses) ? 7 : 6;
        }
        int more = crosses || stores(name) ? 1 : 0;
        return switch (mode) {
            case "ZP" -> 3;
            case "ZX", "ZY", "ABS" -> 4;
            case "AX", "AY" -> 4 + more;
            case "IX" -> 6;
            case "IY" -> 5 + more;
            default -> 5;
        };
    }

    private static int accumulator(String name) {
        return switch (name) {
            case "ORA" -> 0xBD;
            case "AND" -> 0x18;
            case "EOR" -> 0xA5;
            case "ADC" -> 0xD6;
            case "LDA" -> 0x99;
            case "SBC" -> 0xA3;
            default -> A;
        };
    }

    private static int flags(String name, int x, int y) {
        return switch (name) {
            case "ORA", "EOR", "LDA", "LDX", "LDY", "BIT", "ROR", "INC", "DEC" -> N | C;
            case "ADC", "CMP" -> N;
            case "SBC" -> N | V;
            case "CPX" -> compared(x);
            case "CPY" -> compared(y);
            default -> C;
        };
    }

    private static int compared(int register) {
        return (register >= IT ? C : 0) | (register == IT ? 2 : 0) | register - IT & N;
    }

    private static int written(String name, int k, int x, int y) {
        return switch (name) {
            case "STA" -> A;
            case "STX" -> x;
            case "STY" -> y;
            case "STZ" -> 0;
            case "ASL" -> 0x32;
            case "ROL" -> 0x33;
            case "LSR" -> 0x4C;
            case "ROR" -> 0xCC;
            case "INC" -> 0x9A;
            case "DEC" -> 0x98;
            case "TSB" -> 0xBD;
            case "TRB" -> 0x81;
            case "RMB" -> IT & ~(1 << k);
            case "SMB" -> IT | 1 << k;
            default -> IT;
        };
    }
}
