/** Promise 3: reset. */
public final class ResetTest {
    public static void main(String[] args) {
        registers();
        devices();
        states();
        Check.end();
    }

    private static void registers() {
        BoardMachine m = new BoardMachine();
        m.load(0xFFFC, 0x3412, 2);
        int[] set = {1, 2, 3, 4, 0xCB, 0x9999};
        for (int i = 0; i < 6; i++) {
            m.set(i, set[i]);
        }
        m.reset();
        int[] want = {1, 2, 3, 0xFD, 0xF7, 0x1234};
        for (int i = 0; i < 6; i++) {
            Check.due("register(" + i + ") behind a reset", m.register(i), want[i]);
        }
    }

    private static void devices() {
        // Bank 3; latch 1 and counter 1; ACR; IER; counter 2; the command; a byte sent.
        BoardMachine m = Check.with(
                0xA9, 0xFF, 0x8D, 0x20, 0xA0, 0x8D, 0x0B, 0xA0, 0x8D, 0x0E, 0xA0, 0x8D, 0x12, 0xA0,
                0x9C, 0x04, 0xA0, 0x9C, 0x05, 0xA0, 0x9C, 0x08, 0xA0, 0x9C, 0x09, 0xA0, 0x8D, 0x10, 0xA0,
                0x8D, 0x06, 0xA0, 0x85, 0x10, 0x8D, 0x00, 0x80);
        m.receive(65);
        m.setBreak(0x1234);
        Check.steps(m, 13);
        Check.due("bank ahead of the reset", m.count(4), 3);
        Check.due("IFR ahead of it", m.count(8), 96);
        Check.due("IER ahead of it", m.count(9), 127);
        long cycles = m.count(0);
        m.reset();
        long[] want = {cycles, 13, 1, 0, 0, 65535, 65535, 0, 0, 0, 0, 0, 0, 1, 0};
        for (int i = 0; i < want.length; i++) {
            Check.due("count(" + i + ") behind it", m.count(i), want[i]);
        }
        Check.due("ACR", m.look(0xA00B), 0);
        Check.due("IER", m.look(0xA00E), 128);
        Check.due("the command", m.look(0xA012), 0);
        Check.due("the port's state", m.look(0xA011), 16);
        Check.due("what was sent stays", m.sent(0), 255);
        Check.due("memory stays", m.look(0x10), 255);
        Check.due("the trace stays", m.trace(0), Check.START);
        notArmed();
    }

    private static void notArmed() {
        // Both counters armed, far from 0, then a reset: behind 65536 cycles no bit of IFR comes.
        BoardMachine m = Check.with(0xA9, 0x99, 0x8D, 0x08, 0xA0, 0x8D, 0x05, 0xA0, 0x8D, 0x09, 0xA0);
        Check.steps(m, 4);
        m.load(0xC000, 0x80FE, 2);
        m.reset();
        m.run(30000);
        Check.due("counter 1 went round", m.count(5), 65535 - 90000 + 65536);
        Check.due("IFR of counters that are not armed", m.count(8), 0);
        m.load(0xC000, 0x9C09A0, 3);
        m.reset();
        m.step();
        Check.due("the lower byte of latch 2 was made 0", m.count(6), 65535 - 3);
    }

    private static void states() {
        BoardMachine m = Check.with(0xDB);
        m.step();
        m.nmi();
        Check.due("stopped", m.count(11), 1);
        m.reset();
        Check.due("stopped no more", m.count(11), 0);
        Check.due("latched no more", m.count(12), 0);
        BoardMachine w = Check.with(0xCB);
        w.step();
        Check.due("waits", w.count(10), 1);
        w.reset();
        Check.due("waits no more", w.count(10), 0);
    }
}
