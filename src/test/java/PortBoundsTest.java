/** The sentences of 'THE PORT' and of promises 7 and 8: each at its bounds. */
public final class PortBoundsTest {
    public static void main(String[] args) {
        Check.sentence("0xA010: reading takes the oldest byte that came (0 without one); writing sends one",
                PortBoundsTest::data);
        Check.sentence("0xA011: reads 16, and 8 if a byte waits, and 128 if it asks for an interrupt",
                PortBoundsTest::status);
        Check.sentence("writing makes the COMMAND 0", PortBoundsTest::writingStatus);
        Check.sentence("0xA012: the command", PortBoundsTest::command);
        Check.sentence("It asks for one when a byte waits and the command's lowest two bits are 1",
                PortBoundsTest::asks);
        Check.sentence("A byte comes to the port: how many wait", PortBoundsTest::howMany);
        Check.sentence("NONE when 64 do", PortBoundsTest::full);
        Check.sentence("or b is not 0 .. 255", PortBoundsTest::noByte);
        Check.sentence("Byte i (from 0) of those sent", PortBoundsTest::sentInOrder);
        Check.sentence("of which the latest 256 are kept", PortBoundsTest::kept);
        Check.sentence("NONE when there is none", PortBoundsTest::noneSent);
        Check.sentence("NONE when there is none, or it is not kept", PortBoundsTest::notKept);
        Check.end();
    }

    private static void data() {
        BoardMachine m = new BoardMachine();
        Check.due("0xA010 without a byte", Check.read(m, 0xA010), 0);
        Check.due("bytes that wait", m.count(3), 0);
        Check.due("0xA010 looked at without a byte", m.look(0xA010), 0);
        m.receive(255);
        m.receive(0);
        m.receive(7);
        int[] want = {255, 0, 7};
        for (int i = 0; i < 3; i++) {
            Check.due("0xA010 looked at", m.look(0xA010), want[i]);
            Check.due("0xA010", Check.read(m, 0xA010), want[i]);
            Check.due("bytes that wait", m.count(3), 2 - i);
        }
        Check.due("0xA010 behind the last one", Check.read(m, 0xA010), 0);
        Check.due("0xA010 looked at behind the last one", m.look(0xA010), 0);
        Check.due("bytes that wait", m.count(3), 0);
        Check.due("receive(9) then", m.receive(9), 1);
        Check.write(m, 0xA010, 200);
        Check.due("bytes sent", m.count(2), 1);
        Check.due("writing takes none", m.count(3), 1);
        Check.due("what was sent", m.sent(0), 200);
        Check.due("the byte that waits", Check.read(m, 0xA010), 9);
        Check.due("reading sends none", m.count(2), 1);
    }

    private static void status() {
        for (int command : new int[] {0, 1, 2, 3, 4, 5, 254, 253}) {
            BoardMachine m = new BoardMachine();
            m.set(Check.P, 4);
            Check.write(m, 0xA012, command);
            int asks = (command & 3) == 1 ? 128 : 0;
            Check.due("0xA011 without a byte", Check.read(m, 0xA011), 16);
            m.receive(0);
            Check.due("0xA011 with one", Check.read(m, 0xA011), 24 + asks);
            Check.due("bytes that wait", m.count(3), 1);
            m.receive(0);
            Check.due("0xA011 with two", Check.read(m, 0xA011), 24 + asks);
            Check.read(m, 0xA010);
            Check.due("0xA011 with one", Check.read(m, 0xA011), 24 + asks);
            Check.read(m, 0xA010);
            Check.due("0xA011 without one", Check.read(m, 0xA011), 16);
        }
    }

    private static void writingStatus() {
        for (int v : new int[] {0, 1, 255}) {
            BoardMachine m = new BoardMachine();
            m.set(Check.P, 4);
            Check.write(m, 0xA012, 255);
            m.receive(6);
            Check.write(m, 0xA011, v);
            Check.due("the command behind writing " + v, m.look(0xA012), 0);
            Check.due("the byte waits still", m.count(3), 1);
            Check.due("bytes sent", m.count(2), 0);
            Check.due("0xA011", m.look(0xA011), 24);
        }
    }

    private static void command() {
        BoardMachine m = new BoardMachine();
        m.set(Check.P, 4);
        Check.due("the command at first", m.look(0xA012), 0);
        for (int v : new int[] {255, 128, 1, 0, 254}) {
            Check.write(m, 0xA012, v);
            Check.due("the command looked at", m.look(0xA012), v);
            Check.due("the command read", Check.read(m, 0xA012), v);
            Check.due("the command read again", Check.read(m, 0xA012), v);
        }
    }

    private static void asks() {
        for (int command = 0; command < 8; command++) {
            for (int bytes = 0; bytes < 3; bytes++) {
                BoardMachine m = new BoardMachine();
                m.set(Check.P, 4);
                Check.write(m, 0xA012, command | 0xF8);
                for (int i = 0; i < bytes; i++) {
                    m.receive(i);
                }
                m.load(0x320, 0xEA, 1);
                m.set(Check.PC, 0x320);
                m.set(Check.P, 0);
                boolean asks = bytes > 0 && (command & 3) == 1;
                Check.due("0xA011, command " + command + ", bytes " + bytes, m.look(0xA011) >= 128, asks);
                Check.due("step(), command " + command + ", bytes " + bytes, m.step(), asks ? 7 : 2);
            }
        }
        // Taking the last byte ends it.
        BoardMachine m = new BoardMachine();
        m.set(Check.P, 4);
        Check.write(m, 0xA012, 1);
        m.receive(1);
        m.receive(2);
        Check.read(m, 0xA010);
        Check.due("0xA011 with a byte still", m.look(0xA011), 152);
        Check.read(m, 0xA010);
        Check.due("0xA011 without one", m.look(0xA011), 16);
        m.load(0x320, 0xEA, 1);
        m.set(Check.PC, 0x320);
        m.set(Check.P, 0);
        Check.due("step()", m.step(), 2);
    }

    private static void howMany() {
        BoardMachine m = new BoardMachine();
        Check.due("receive, the first", m.receive(1), 1);
        Check.due("receive, the second", m.receive(1), 2);
        Check.read(m, 0xA010);
        Check.due("receive behind taking one", m.receive(1), 2);
        Check.read(m, 0xA010);
        Check.read(m, 0xA010);
        Check.read(m, 0xA010);
        Check.due("receive behind taking all", m.receive(1), 1);
        Check.due("count(3)", m.count(3), 1);
    }

    private static void full() {
        BoardMachine m = new BoardMachine();
        for (int i = 0; i < 63; i++) {
            m.receive(i);
        }
        Check.due("receive, the 64th", m.receive(63), 64);
        Check.due("receive, the 65th", m.receive(99), BoardMachine.NONE);
        Check.due("receive once more", m.receive(98), BoardMachine.NONE);
        Check.due("bytes that wait", m.count(3), 64);
        Check.due("the oldest is still the first", m.look(0xA010), 0);
        Check.due("taken", Check.read(m, 0xA010), 0);
        Check.due("receive with room for one", m.receive(64), 64);
        Check.due("receive without room", m.receive(97), BoardMachine.NONE);
        for (int i = 1; i <= 64; i++) {
            Check.due("taken then", Check.read(m, 0xA010), i);
        }
        Check.due("bytes that wait", m.count(3), 0);
        Check.due("taken without one", Check.read(m, 0xA010), 0);
    }

    private static void noByte() {
        BoardMachine m = new BoardMachine();
        for (int b : new int[] {-1, 256, -256, 257, 65536, Integer.MIN_VALUE, Integer.MAX_VALUE}) {
            Check.due("receive(" + b + ")", m.receive(b), BoardMachine.NONE);
            Check.due("bytes that wait behind it", m.count(3), 0);
        }
        Check.due("receive(0)", m.receive(0), 1);
        Check.due("receive(255)", m.receive(255), 2);
        Check.due("receive(-1) behind them", m.receive(-1), BoardMachine.NONE);
        Check.due("receive(256) behind them", m.receive(256), BoardMachine.NONE);
        Check.due("the first", Check.read(m, 0xA010), 0);
        Check.due("the second", Check.read(m, 0xA010), 255);
        Check.due("bytes that wait", m.count(3), 0);
    }

    /** A machine that has sent n bytes: 1, 2, 3 ..., each modulo 251, so that none stands 256 behind its like. */
    private static BoardMachine sending(int n) {
        // STX 0xA010; INX; CPX #251; BNE to its start; LDX #0; BRA to its start
        BoardMachine m = Check.at(0x320, 0x8E, 0x10, 0xA0, 0xE8, 0xE0, 251, 0xD0, 0xF8, 0xA2, 0x00, 0x80, 0xF4);
        m.set(Check.X, 1);
        m.setBreak(0x323);
        for (int i = 0; i < n; i++) {
            m.run(100);
        }
        Check.due("bytes sent in all", m.count(2), n);
        return m;
    }

    private static int nth(int i) {
        return (i + 1) % 251;
    }

    private static void sentInOrder() {
        BoardMachine m = sending(3);
        for (int i = 0; i < 3; i++) {
            Check.due("sent(" + i + ")", m.sent(i), nth(i));
            Check.due("sent(" + i + ") again", m.sent(i), nth(i));
        }
        BoardMachine zero = new BoardMachine();
        Check.write(zero, 0xA010, 0);
        Check.write(zero, 0xA010, 255);
        Check.due("sent(0) of a byte 0", zero.sent(0), 0);
        Check.due("sent(1) of a byte 255", zero.sent(1), 255);
    }

    private static void kept() {
        for (int n : new int[] {255, 256, 257, 300}) {
            BoardMachine m = sending(n);
            int oldest = n < 256 ? 0 : n - 256;
            Check.due("the oldest of " + n, m.sent(oldest), nth(oldest));
            Check.due("the next of " + n, m.sent(oldest + 1), nth(oldest + 1));
            Check.due("the latest but one of " + n, m.sent(n - 2), nth(n - 2));
            Check.due("the latest of " + n, m.sent(n - 1), nth(n - 1));
        }
        BoardMachine m = sending(256);
        for (int i = 0; i < 200; i++) {
            Check.due("sent(" + i + ") of 256", m.sent(i), nth(i));
        }
    }

    private static void noneSent() {
        BoardMachine m = new BoardMachine();
        for (int i : new int[] {0, 1, -1, 255, 256, Integer.MIN_VALUE, Integer.MAX_VALUE}) {
            Check.due("sent(" + i + ") of none", m.sent(i), BoardMachine.NONE);
        }
        for (int n : new int[] {1, 255, 256, 257}) {
            BoardMachine some = sending(n);
            Check.due("sent(" + (n - 1) + ") of " + n, some.sent(n - 1), nth(n - 1));
            Check.due("sent(" + n + ") of " + n, some.sent(n), BoardMachine.NONE);
            Check.due("sent(-1) of " + n, some.sent(-1), BoardMachine.NONE);
            Check.due("sent(" + (n + 256) + ") of " + n, some.sent(n + 256), BoardMachine.NONE);
            Check.due("sent(least) of " + n, some.sent(Integer.MIN_VALUE), BoardMachine.NONE);
            Check.due("sent(most) of " + n, some.sent(Integer.MAX_VALUE), BoardMachine.NONE);
        }
    }

    private static void notKept() {
        int[][] rows = {{256, 0}, {257, 1}, {258, 2}, {400, 144}};
        for (int[] row : rows) {
            BoardMachine m = sending(row[0]);
            Check.due("sent(" + row[1] + ") of " + row[0], m.sent(row[1]), nth(row[1]));
            Check.due("the one ahead of it", m.sent(row[1] - 1), BoardMachine.NONE);
            Check.due("sent(0) of " + row[0], m.sent(0), row[1] == 0 ? 1 : BoardMachine.NONE);
        }
    }
}
