/** Promise 15: count. */
public final class CountTest {
    public static void main(String[] args) {
        wrongNumbers();
        cyclesAndSteps();
        devices();
        states();
        Check.end();
    }

    private static void wrongNumbers() {
        BoardMachine m = new BoardMachine();
        for (int what : new int[] {-1, 15, 16, Integer.MIN_VALUE, Integer.MAX_VALUE}) {
            Check.due("count(" + what + ")", m.count(what), BoardMachine.NONE);
        }
    }

    private static void cyclesAndSteps() {
        // INC 0x10; BRK; WAI
        BoardMachine m = Check.with(0xE6, 0x10, 0x00);
        m.load(0xFFFE, 0x00D0, 2);
        m.load(0xD000, 0xCB, 1);
        Check.steps(m, 2);
        Check.due("cycles", m.count(0), 12);
        Check.due("instructions", m.count(1), 2);
        Check.due("interrupts, of which BRK is none", m.count(14), 0);
        Check.steps(m, 3);
        Check.due("cycles with two of waiting", m.count(0), 17);
        Check.due("instructions with WAI", m.count(1), 3);
        m.nmi();
        m.step();
        Check.due("cycles with an interrupt", m.count(0), 24);
        Check.due("instructions with it", m.count(1), 3);
        Check.due("interrupts", m.count(14), 1);
    }

    private static void devices() {
        // LDA #0xF7; STA 0xA020; STA 0xA010; STA 0xA00E; STA 0xA006; STA 0xA007; STA 0xA00D
        BoardMachine m = Check.with(0xA9, 0xF7, 0x8D, 0x20, 0xA0, 0x8D, 0x10, 0xA0, 0x8D, 0x0E, 0xA0,
                0x8D, 0x06, 0xA0, 0x8D, 0x07, 0xA0, 0x8D, 0x0D, 0xA0);
        m.receive(1);
        m.receive(2);
        Check.steps(m, 7);
        long[] want = {26, 7, 1, 2, 3, 65535 - 26, 65535 - 26, 0xF7F7, 0, 0x77, 0, 0, 0, 0, 0};
        for (int i = 0; i < want.length; i++) {
            Check.due("count(" + i + ")", m.count(i), want[i]);
        }
    }

    private static void states() {
        BoardMachine m = Check.with(0xCB, 0xDB);
        Check.due("waits", m.count(10), 0);
        m.step();
        Check.due("waits behind WAI", m.count(10), 1);
        Check.due("latched", m.count(12), 0);
        m.nmi();
        Check.due("latched behind nmi()", m.count(12), 1);
        m.load(0xFFFA, 0x01C0, 2);
        m.step();
        Check.due("waits behind the interrupt", m.count(10), 0);
        Check.due("latched behind it", m.count(12), 0);
        Check.due("stopped", m.count(11), 0);
        m.step();
        Check.due("stopped behind STP", m.count(11), 1);
        m.setBreak(1);
        m.setBreak(2);
        Check.due("break points", m.count(13), 2);
    }
}
