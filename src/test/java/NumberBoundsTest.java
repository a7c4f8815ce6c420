/** The sentences of 'Terms' on numbers, addresses, words and flags: each at its bounds. */
public final class NumberBoundsTest {
    public static void main(String[] args) {
        Check.sentence("NUMBERS are bytes 0 .. 255 and ADDRESSES 0 .. 65535, arithmetic of them going round",
                NumberBoundsTest::goingRound);
        Check.sentence("A WORD at an address is the byte there + 256 * that behind it", NumberBoundsTest::words);
        Check.sentence("bits 16 and 32 of it are always 1", NumberBoundsTest::bitsAlways);
        Check.sentence("SETTING N, Z by a byte: N is its bit 7, Z whether it is 0", NumberBoundsTest::settingNAndZ);
        Check.end();
    }

    /** A code at 0x200 that changes a register and sets N, Z by it. */
    private static void changes(String name, int code, int register, int from, int to) {
        BoardMachine m = Check.at(0x200, code);
        m.set(register, from);
        m.step();
        Check.due(name + " of " + from, m.register(register), to);
        Check.due(name + " of " + from + ": P", m.register(Check.P), 48 + (to >= 128 ? 128 : 0) + (to == 0 ? 2 : 0));
    }

    private static void changesMemory(String name, int code, int from, int to) {
        BoardMachine m = Check.at(0x200, code, 0x40);
        m.load(0x40, from, 1);
        m.step();
        Check.due(name + " of " + from, m.look(0x40), to);
        Check.due("the byte behind it", m.look(0x41), 0);
        Check.due("the byte ahead of it", m.look(0x3F), 0);
        Check.due(name + " of " + from + ": P", m.register(Check.P), 48 + (to >= 128 ? 128 : 0) + (to == 0 ? 2 : 0));
    }

    private static void goingRound() {
        bytesUp();
        bytesDown();
        addresses();
    }

    private static void bytesUp() {
        for (int from : new int[] {0, 126, 127, 254, 255}) {
            int to = from == 255 ? 0 : from + 1;
            changes("INX", 0xE8, Check.X, from, to);
            changes("INY", 0xC8, Check.Y, from, to);
            changes("INC of A", 0x1A, Check.A, from, to);
            changesMemory("INC", 0xE6, from, to);
        }
    }

    private static void bytesDown() {
        for (int from : new int[] {0, 1, 128, 129, 255}) {
            int to = from == 0 ? 255 : from - 1;
            changes("DEX", 0xCA, Check.X, from, to);
            changes("DEY", 0x88, Check.Y, from, to);
            changes("DEC of A", 0x3A, Check.A, from, to);
            changesMemory("DEC", 0xC6, from, to);
        }
    }

    private static void addresses() {
        BoardMachine m = Check.at(0xFFFE, 0xEA, 0xEA, 0xEA);
        m.step();
        Check.due("PC behind a code at 65534", m.register(Check.PC), 65535);
        m.step();
        Check.due("PC behind a code at 65535", m.register(Check.PC), 0);
        m.step();
        Check.due("PC behind a code at 0", m.register(Check.PC), 1);
        Check.due("trace(2)", m.trace(2), 0);
    }

    private static void words() {
        int[] places = {0x0000, 0x00FF, 0x12FF, 0x7FFF, 0x9FFE, 0xFFFE, 0xFFFF};
        for (int w : places) {
            BoardMachine m = Check.at(0x200, 0x6C, w & 255, w >> 8);
            m.load(w, 0x78, 1);
            m.load(w + 1 & 0xFFFF, 0x56, 1);
            m.step();
            Check.due("JMP to the word at " + w, m.register(Check.PC), 0x5678);
        }
    }

    private static void bitsAlways() {
        Check.due("P at first", new BoardMachine().register(Check.P), 48);
        BoardMachine set = new BoardMachine();
        for (int v : new int[] {0, 16, 32, 48, 255 - 48}) {
            set.set(Check.P, v);
            Check.due("P set to " + v, set.register(Check.P), v | 48);
        }
        for (int pulled : new int[] {0, 16, 32, 48, 255 - 48, 255}) {
            BoardMachine plp = Check.at(0x200, 0x28);
            plp.load(0x101, pulled, 1);
            plp.step();
            Check.due("P by PLP of " + pulled, plp.register(Check.P), pulled | 48);
            BoardMachine rti = Check.at(0x200, 0x40);
            rti.load(0x101, pulled, 1);
            rti.step();
            Check.due("P by RTI of " + pulled, rti.register(Check.P), pulled | 48);
        }
        BoardMachine php = Check.at(0x200, 0x08);
        php.set(Check.P, 0);
        php.step();
        Check.due("pushed by PHP", php.look(0x100), 48);
    }

    private static void settingNAndZ() {
        int[] codes = {0xA9, 0xA2, 0xA0};
        for (int register = 0; register < 3; register++) {
            for (int v : new int[] {0, 1, 127, 128, 255}) {
                for (int p : new int[] {0, 255}) {
                    BoardMachine m = Check.at(0x200, codes[register], v);
                    m.set(Check.P, p);
                    m.step();
                    int want = p & ~130 | 48 | (v == 0 ? 2 : 0) | (v > 127 ? 128 : 0);
                    Check.due("register " + register + " of " + v, m.register(register), v);
                    Check.due("P by " + v + " behind " + p, m.register(Check.P), want);
                }
            }
        }
    }
}
