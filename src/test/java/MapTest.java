/** Promise 4: what the processor reads and writes by the map. */
public final class MapTest {
    public static void main(String[] args) {
        writing();
        bank();
        devicesAsCode();
        changingDevices();
        storesReadNothing();
        Check.end();
    }

    private static void write(BoardMachine m, int at, int value) {
        m.load(0x300, 0x8D0000L | (at & 255) << 8 | at >> 8, 3);
        m.set(Check.PC, 0x300);
        m.set(Check.A, value);
        m.step();
    }

    private static void writing() {
        BoardMachine m = new BoardMachine();
        for (int at : new int[] {0, 0x7FFF, 0x8000, 0x9FFF}) {
            write(m, at, 0x5A);
            Check.due("written at " + at, m.look(at), 0x5A);
        }
        for (int at : new int[] {0xA013, 0xA01F, 0xA021, 0xA030, 0xBFFF, 0xC000, 0xFFFF}) {
            write(m, at, 0x5A);
            Check.due("written in vain at " + at, m.look(at), 0);
        }
        write(m, 0xA012, 0x5B);
        Check.due("0xA013 is no command", m.look(0xA013), 0);
        write(m, 0xA013, 0x5A);
        Check.due("nor written as one", m.look(0xA012), 0x5B);
        write(m, 0xA000, 0x5A);
        Check.due("0xA000 is no memory", m.look(0xA000), 0);
        for (int k = 3; k >= 1; k--) {
            write(m, 0xA020, k);
            Check.due("nor that of bank " + k, m.look(0x8000), 0);
        }
        write(m, 0xA020, 0);
        Check.due("bank", m.count(4), 0);
        Check.due("bytes sent", m.count(2), 0);
    }

    private static void bank() {
        BoardMachine m = new BoardMachine();
        for (int v = 0; v < 256; v += 5) {
            write(m, 0xA020, v);
            Check.due("bank of " + v, m.count(4), v % 4);
            Check.due("bank read", m.look(0xA020), v % 4);
        }
        for (int k = 0; k < 4; k++) {
            write(m, 0xA020, k);
            write(m, 0x8123, 100 + k);
        }
        for (int k = 0; k < 4; k++) {
            write(m, 0xA020, k);
            m.load(0x310, 0xAD2381, 3);
            m.set(Check.PC, 0x310);
            m.step();
            Check.due("byte of bank " + k, m.register(Check.A), 100 + k);
        }
        Check.due("fixed memory is no bank", m.look(0xC123), 0);
    }

    private static void devicesAsCode() {
        // Code at the port: one byte is the code, and one of the state and the command follow.
        BoardMachine m = new BoardMachine();
        m.receive(0xA9);
        m.receive(0x77);
        m.set(Check.PC, 0xA010);
        Check.due("LDA # out of the port", m.step(), 2);
        Check.due("A is the state, one byte still waiting", m.register(Check.A), 16 + 8);
        Check.due("bytes that wait", m.count(3), 1);
        codesThatDoNothing();
        vectors();
    }

    private static void codesThatDoNothing() {
        // The code is latch 1's upper byte, what follows it counter 2: reading that makes bit 5 of IFR 0.
        for (int code : new int[] {0x02, 0x44, 0x54, 0x5C, 0xFC}) {
            BoardMachine m = new BoardMachine();
            write(m, 0xA007, code);
            write(m, 0xA009, 0);
            Check.due("IFR", m.count(8), 32);
            m.set(Check.PC, 0xA007);
            m.step();
            Check.due("IFR behind " + code, m.count(8), 0);
        }
        BoardMachine m = new BoardMachine();
        write(m, 0xA007, 0x03);
        write(m, 0xA009, 0);
        m.set(Check.PC, 0xA007);
        m.step();
        Check.due("a code of one byte reads no other", m.count(8), 32);
    }

    private static void vectors() {
        // JMP (0xA00F): lower byte 0 of the timers, upper byte of the port, that is taken.
        BoardMachine m = Check.with(0x6C, 0x0F, 0xA0);
        m.receive(0x12);
        Check.due("JMP (0xA00F)", m.step(), 6);
        Check.due("PC", m.register(Check.PC), 0x1200);
        Check.due("bytes that wait", m.count(3), 0);
    }

    private static void changingDevices() {
        // INC 0xA010 takes a byte and sends the next number.
        BoardMachine m = Check.with(0xEE, 0x10, 0xA0, 0x0C, 0x10, 0xA0, 0x2C, 0x10, 0xA0);
        m.receive(64);
        m.receive(2);
        m.receive(0xC0);
        m.step();
        Check.due("sent(0)", m.sent(0), 65);
        m.set(Check.A, 1);
        m.step();
        Check.due("sent(1) by TSB", m.sent(1), 3);
        m.step();
        Check.due("BIT took one", m.count(3), 0);
        Check.due("P by BIT", m.register(Check.P), 0xC0 + 2 + 4 + 48);
    }

    private static void storesReadNothing() {
        BoardMachine m = Check.with(0x8D, 0x10, 0xA0, 0x9C, 0x10, 0xA0, 0x8E, 0x10, 0xA0, 0x8C, 0x10, 0xA0);
        m.receive(1);
        Check.steps(m, 4);
        Check.due("stores take no byte", m.count(3), 1);
        Check.due("bytes sent", m.count(2), 4);
        Check.due("sent by STZ", m.sent(1), 0);
    }
}
