/** The sentences of 'THE MAP': each at the first and the last address of its part, and at those beside. */
public final class MapBoundsTest {
    public static void main(String[] args) {
        Check.sentence("0 .. 0x7FFF memory", MapBoundsTest::memory);
        Check.sentence("0x8000 .. 0x9FFF one of four BANKS of memory", MapBoundsTest::banks);
        Check.sentence("0xA000 .. 0xA00F the TIMERS", MapBoundsTest::timers);
        Check.sentence("0xA010 .. 0xA012 the PORT", MapBoundsTest::port);
        Check.sentence("0xA020 the bank (0 .. 3; written: the lowest two bits)", MapBoundsTest::bank);
        Check.sentence("0xA013 .. 0xBFFF else: reads 0", MapBoundsTest::nothing);
        Check.sentence("0xC000 .. 0xFFFF fixed memory, that the processor can't write", MapBoundsTest::fixed);
        Check.sentence("All is 0 at first", MapBoundsTest::zeroAtFirst);
        Check.end();
    }

    private static void holds(BoardMachine m, int at, int value) {
        Check.write(m, at, value);
        Check.due("look at " + at, m.look(at), value);
        Check.due("LDA at " + at, Check.read(m, at), value);
    }

    private static void holdsNot(BoardMachine m, int at, int value) {
        Check.write(m, at, 0xA7);
        Check.due("look at " + at, m.look(at), value);
        Check.due("LDA at " + at, Check.read(m, at), value);
    }

    private static void memory() {
        BoardMachine m = new BoardMachine();
        holds(m, 0, 0x11);
        holds(m, 1, 0x12);
        holds(m, 0x7FFE, 0x13);
        holds(m, 0x7FFF, 0x14);
        Check.write(m, 0xA020, 1);
        Check.due("0 is no bank's", m.look(0), 0x11);
        Check.due("0x7FFE is no bank's", m.look(0x7FFE), 0x13);
        Check.due("0x7FFF is no bank's", m.look(0x7FFF), 0x14);
    }

    private static void banks() {
        BoardMachine m = new BoardMachine();
        m.load(0x7FFF, 0x77, 1);
        m.load(0xC000, 0x78, 1);
        for (int k = 0; k < 4; k++) {
            Check.write(m, 0xA020, k);
            holds(m, 0x8000, 0x10 + k);
            holds(m, 0x9FFF, 0x20 + k);
        }
        for (int k = 3; k >= 0; k--) {
            Check.write(m, 0xA020, k);
            Check.due("0x8000 of bank " + k, m.look(0x8000), 0x10 + k);
            Check.due("0x8001 of bank " + k, m.look(0x8001), 0);
            Check.due("0x9FFE of bank " + k, m.look(0x9FFE), 0);
            Check.due("0x9FFF of bank " + k, m.look(0x9FFF), 0x20 + k);
            Check.due("0x9FFF of bank " + k + " by LDA", Check.read(m, 0x9FFF), 0x20 + k);
            Check.due("0x7FFF beside it", m.look(0x7FFF), 0x77);
            Check.due("0xA000 beside it", m.look(0xA000), 0);
            Check.due("0xC000", m.look(0xC000), 0x78);
        }
    }

    private static void timers() {
        BoardMachine m = new BoardMachine();
        holds(m, 0x9FFF, 0x61);
        for (int at : new int[] {0xA000, 0xA003, 0xA00F}) {
            holdsNot(m, at, 0);
        }
        Check.due("0x9FFF beside them", m.look(0x9FFF), 0x61);
        for (int k = 3; k >= 0; k--) {
            Check.write(m, 0xA020, k);
            Check.due("0x8000 of bank " + k, m.look(0x8000), 0);
        }
        Check.write(m, 0xA00E, 0x83);
        Check.due("0xA00E is IER", m.look(0xA00E), 0x83);
        // 16 registers, and no 17th that would be the first again.
        m.receive(0x55);
        Check.read(m, 0xA00F);
        Check.due("0xA00F takes no byte of the port", m.count(3), 1);
        Check.write(m, 0xA014, 0x99);
        Check.write(m, 0xA016, 0x99);
        Check.due("0xA014, 0xA016 are no latch", m.count(7), 0);
        Check.write(m, 0xA01E, 0xFF);
        Check.due("0xA01E is no IER", m.count(9), 3);
    }

    private static void port() {
        BoardMachine m = new BoardMachine();
        m.receive(0x55);
        m.receive(0x56);
        Check.due("0xA00F", Check.read(m, 0xA00F), 0);
        Check.due("bytes that wait behind 0xA00F", m.count(3), 2);
        Check.due("0xA010", Check.read(m, 0xA010), 0x55);
        Check.due("bytes that wait behind 0xA010", m.count(3), 1);
        Check.write(m, 0xA00F, 1);
        Check.due("bytes sent by 0xA00F", m.count(2), 0);
        Check.write(m, 0xA010, 1);
        Check.due("bytes sent by 0xA010", m.count(2), 1);
        Check.write(m, 0xA012, 0x34);
        Check.due("0xA012", Check.read(m, 0xA012), 0x34);
        holdsNot(m, 0xA013, 0);
        Check.due("0xA012 beside it", m.look(0xA012), 0x34);
        Check.due("bytes that wait", m.count(3), 1);
        Check.due("bytes sent", m.count(2), 1);
    }

    private static void bank() {
        BoardMachine m = new BoardMachine();
        for (int v : new int[] {0, 1, 2, 3, 4, 5, 7, 8, 127, 128, 252, 254, 255}) {
            Check.write(m, 0xA020, v);
            Check.due("bank by " + v, m.count(4), v & 3);
            Check.due("0xA020 read", Check.read(m, 0xA020), v & 3);
            Check.due("0xA020 looked at", m.look(0xA020), v & 3);
        }
        Check.write(m, 0xA020, 2);
        for (int at : new int[] {0xA01F, 0xA021, 0xA030, 0xA120, 0xB020, 0xBFE0}) {
            holdsNot(m, at, 0);
            Check.due("bank behind writing to " + at, m.count(4), 2);
        }
    }

    private static void nothing() {
        BoardMachine m = null;
        String state = "";
        for (int at = 0xA013; at <= 0xBFFF; at++) {
            if (at == 0xA020) {
                continue;
            }
            // Of one object, 512 calls are promised.
            if (m == null || at % 32 == 0) {
                m = new BoardMachine();
                m.receive(7);
                m.receive(8);
                Check.write(m, 0xA020, 1);
                Check.write(m, 0xA010, 2);
                state = devices(m);
            }
            Check.write(m, at, 0xFF);
            Check.due("look at " + at, m.look(at), 0);
            Check.due("LDA at " + at, Check.read(m, at), 0);
            if (at % 32 == 31 || at == 0xBFFF) {
                Check.same("behind writing and reading up to " + at, devices(m), state);
            }
        }
    }

    private static String devices(BoardMachine m) {
        return m.count(2) + " " + m.count(3) + " " + m.count(4) + " " + m.count(7) + " " + m.count(8) + " "
                + m.count(9) + " " + m.look(0xA00B) + " " + m.look(0xA012);
    }

    private static void fixed() {
        BoardMachine m = new BoardMachine();
        holds(m, 0x9FFF, 0x42);
        holdsNot(m, 0xBFFF, 0);
        for (int at : new int[] {0xC000, 0xC001, 0xDFFF, 0xE000, 0xFFFE, 0xFFFF}) {
            m.load(at, 0x31, 1);
            holdsNot(m, at, 0x31);
        }
        // All ways of writing: what it does to flags is done, the byte stays.
        int[] codes = {0x0E, 0x2E, 0x4E, 0x6E, 0xEE, 0xCE, 0x0C, 0x1C, 0x8E, 0x8C, 0x9C};
        for (int code : codes) {
            m.load(0x320, (long) code << 16 | 0xC0, 3);
            m.set(Check.PC, 0x320);
            m.set(Check.A, 0xFF);
            m.set(Check.X, 0xFF);
            m.set(Check.Y, 0xFF);
            m.step();
            Check.due("0xC000 behind the code " + code, m.look(0xC000), 0x31);
        }
        m.load(0xC000, 0xFF, 1);
        m.load(0x320, 0xEE00C0, 3);
        m.set(Check.PC, 0x320);
        Check.due("INC of 0xC000", m.step(), 6);
        Check.due("Z by INC of 0xC000", m.register(Check.P) & 2, 2);
        Check.due("0xC000 behind it", m.look(0xC000), 0xFF);
    }

    private static void zeroAtFirst() {
        BoardMachine m = new BoardMachine();
        for (int k = 0; k < 4; k++) {
            Check.write(m, 0xA020, k);
            for (int at : new int[] {0, 0x7FFF, 0x8000, 0x8001, 0x8FFF, 0x9FFE, 0x9FFF, 0xC000, 0xFFFF}) {
                Check.due("look at " + at + " with bank " + k, m.look(at), 0);
            }
        }
    }
}
