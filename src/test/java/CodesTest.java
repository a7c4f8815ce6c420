/** Promise 4: how many bytes and cycles each code has. */
public final class CodesTest {
    /** For each code its bytes, and its cycles without and with crossing into another upper byte. */
    private static final String[] ROWS = {
        //  0   1   2   3   4   5   6   7   8   9   A   B   C   D   E   F
        "  -7  26  22  11  25  23  25  25  13  22  12  11  36  34  36  3B",
        "  2b  2y  25  11  25  24  26  25  12  3x  12  11  36  3x  3s  3B",
        "  -6  26  22  11  23  23  25  25  14  22  12  11  34  34  36  3B",
        "  2b  2y  25  11  24  24  26  25  12  3x  12  11  3x  3x  3s  3B",
        "  -6  26  22  11  23  23  25  25  13  22  12  11  -3  34  36  3B",
        "  2b  2y  25  11  24  24  26  25  12  3x  13  11  38  3x  3s  3B",
        "  -6  26  22  11  23  23  25  25  14  22  12  11  -6  34  36  3B",
        "  2b  2y  25  11  24  24  26  25  12  3x  14  11  -6  3x  3s  3B",
        "  2b  26  22  11  23  23  23  25  12  22  12  11  34  34  34  3B",
        "  2b  26  25  11  24  24  24  25  12  35  12  11  34  35  35  3B",
        "  22  26  22  11  23  23  23  25  12  22  12  11  34  34  34  3B",
        "  2b  2y  25  11  24  24  24  25  12  3x  12  11  3x  3x  3x  3B",
        "  22  26  22  11  23  23  25  25  12  22  12  13  34  34  36  3B",
        "  2b  2y  25  11  24  24  26  25  12  3x  13  13  34  3x  37  3B",
        "  22  26  22  11  23  23  25  25  12  22  12  11  34  34  36  3B",
        "  2b  2y  25  11  24  24  26  25  12  3x  14  11  34  3x  37  3B",
    };

    public static void main(String[] args) {
        for (int code = 0; code < 256; code++) {
            String row = ROWS[code >> 4];
            char bytes = row.charAt((code & 15) * 4 + 2);
            char cycles = row.charAt((code & 15) * 4 + 3);
            plain(code, bytes, cycles);
            crossing(code, bytes, cycles);
        }
        decimal();
        branches();
        bitBranches();
        Check.end();
    }

    /** Nothing crosses: operands 0x10 and 0x02, index registers 1. */
    private static void plain(int code, char bytes, char cycles) {
        BoardMachine m = prepared(code, 0x10, 0x02, 1);
        int want = switch (cycles) {
            case 'y' -> 5;
            case 'x' -> 4;
            case 's' -> 6;
            default -> cycles - '0';
        };
        if (cycles == 'b' || cycles == 'B') {
            return;
        }
        Check.due("cycles of " + Integer.toHexString(code), m.step(), want);
        if (bytes != '-') {
            Check.due("bytes of " + Integer.toHexString(code), m.register(Check.PC) - 0xC000, bytes - '0');
        }
    }

    /** Operands 0x10 and 0x02 with index registers 0xFF: all that are indexed cross. */
    private static void crossing(int code, char bytes, char cycles) {
        BoardMachine m = prepared(code, 0x10, 0x02, 0xFF);
        int want = switch (cycles) {
            case 'y' -> 6;
            case 'x' -> 5;
            case 's' -> 7;
            default -> cycles - '0';
        };
        if (cycles == 'b' || cycles == 'B') {
            return;
        }
        Check.due("cycles of " + Integer.toHexString(code) + ", crossing", m.step(), want);
    }

    private static BoardMachine prepared(int code, int second, int third, int index) {
        BoardMachine m = Check.with(code, second, third);
        m.load(0x0F, 0x01100300L, 4);
        m.set(Check.X, index);
        m.set(Check.Y, index);
        return m;
    }

    private static void decimal() {
        int[] adc = {0x69, 0x65, 0x75, 0x6D, 0x7D, 0x79, 0x61, 0x71, 0x72};
        int[] cycles = {3, 4, 5, 5, 5, 5, 7, 6, 6};
        for (int i = 0; i < adc.length; i++) {
            for (int code = adc[i]; code < 256; code += 0x80) {
                BoardMachine m = prepared(code, 0x10, 0x02, 1);
                m.set(Check.P, 8);
                Check.due("decimal cycles of " + Integer.toHexString(code), m.step(), cycles[i]);
            }
        }
        BoardMachine m = prepared(0x7D, 0x10, 0x02, 0xFF);
        m.set(Check.P, 8);
        Check.due("decimal and crossing", m.step(), 6);
        m.set(Check.PC, 0xC010);
        m.load(0xC010, 0xA510, 2);
        Check.due("crossing is forgotten by the next step", m.step(), 3);
        BoardMachine n = prepared(0x09, 0x10, 0x02, 0xFF);
        n.set(Check.P, 8);
        Check.due("ORA in decimal", n.step(), 2);
    }

    private static void branches() {
        int[] codes = {0x10, 0x30, 0x50, 0x70, 0x90, 0xB0, 0xD0, 0xF0};
        int[] flags = {128, 128, 64, 64, 1, 1, 2, 2};
        for (int i = 0; i < codes.length; i++) {
            boolean taken = i % 2 == 1;
            branch(codes[i], 255 & ~flags[i], !taken);
            branch(codes[i], flags[i], taken);
        }
        branch(0x80, 0, true);
        branch(0x80, 255, true);
    }

    private static void branch(int code, int flags, boolean taken) {
        int[] distances = {0, 5, 0x7F, 0x80, 0xFE, 0xFF};
        int[] starts = {0xC000, 0xC0FD, 0xC080, 0xC0FE, 0x0000, 0xFFF0};
        for (int distance : distances) {
            for (int start : starts) {
                BoardMachine m = new BoardMachine();
                Check.load(m, start, code, distance);
                m.set(Check.PC, start);
                m.set(Check.P, flags);
                int follows = start + 2;
                int to = follows + (byte) distance & 0xFFFF;
                int cycles = !taken ? 2 : to >> 8 == follows >> 8 ? 3 : 4;
                String call = Integer.toHexString(code) + " by " + distance + " at " + start + " with " + flags;
                Check.due(call, m.step(), cycles);
                Check.due(call + ": PC", m.register(Check.PC), taken ? to : follows);
                Check.due(call + ": P", m.register(Check.P), flags | 48);
            }
        }
    }

    private static void bitBranches() {
        for (int k = 0; k < 8; k++) {
            for (int set = 0; set < 2; set++) {
                for (int value : new int[] {1 << k, 255 - (1 << k)}) {
                    int code = (set == 1 ? 0x8F : 0x0F) + 16 * k;
                    boolean taken = (value == 1 << k) == (set == 1);
                    bitBranch(code, value, 0x10, taken ? 6 : 5, taken ? 0xC013 : 0xC003);
                    bitBranch(code, value, 0xF0, taken ? 7 : 5, taken ? 0xBFF3 : 0xC003);
                }
            }
        }
    }

    private static void bitBranch(int code, int value, int distance, int cycles, int to) {
        BoardMachine m = Check.with(code, 0x44, distance);
        m.load(0x44, value, 1);
        m.set(Check.P, 0xCF);
        String call = Integer.toHexString(code) + " of " + value + " by " + distance;
        Check.due(call, m.step(), cycles);
        Check.due(call + ": PC", m.register(Check.PC), to);
        Check.due(call + ": P", m.register(Check.P), 0xFF);
    }
}
