/** The sentences of 'TIMERS': each at its bounds. A write by Check takes 4 cycles, a read 4, too. */
public final class TimerBoundsTest {
    private static final int T = 0xA000;

    public static void main(String[] args) {
        Check.sentence("registers 4, 5: the lower, upper byte of counter 1; 6, 7: of latch 1; 8, 9 of counter 2; "
                + "11 ACR; 13 IFR; 14 IER", TimerBoundsTest::registers);
        Check.sentence("others read 0", TimerBoundsTest::others);
        Check.sentence("Reading 4, or 8, also makes bit 6, or 5, of IFR 0", TimerBoundsTest::reading);
        Check.sentence("Writing 4 or 6: the lower byte of latch 1; 7: its upper one, and bit 6 of IFR is 0",
                TimerBoundsTest::writingLatch);
        Check.sentence("5: its upper one, counter 1 becomes the latch, is ARMED, bit 6 of IFR is 0",
                TimerBoundsTest::writing5);
        Check.sentence("8: the lower byte of latch 2; 9: counter 2 becomes 256 * it + that, is armed, "
                + "bit 5 of IFR is 0", TimerBoundsTest::writing8And9);
        Check.sentence("13: the bits of IFR that are 1 in it become 0 (of 6 and 5)", TimerBoundsTest::writing13);
        Check.sentence("14: if it has bit 7: its bits 0 .. 6 become 1 in IER, else 0", TimerBoundsTest::writing14);
        Check.sentence("IFR reads with bit 7 set if it has a bit that IER has; IER reads with bit 7 set",
                TimerBoundsTest::bit7);
        Check.sentence("In a cycle a counter that is not 0 is one less; one that is 0 becomes 65535",
                TimerBoundsTest::goingRound);
        Check.sentence("but counter 1, if ACR has bit 6, latch 1", TimerBoundsTest::latchAgain);
        Check.sentence("then, if it is armed, its bit of IFR (6, or 5 for 2) is 1, and it is armed no more",
                TimerBoundsTest::armedOnce);
        Check.sentence("(counter 1 with that bit of ACR stays so)", TimerBoundsTest::staysArmed);
        Check.sentence("An IRQ is there when IFR reads with bit 7", TimerBoundsTest::irq);
        Check.end();
    }

    /** Both counters, armed, gone round: IFR has its bits 6 and 5. */
    private static BoardMachine flagged() {
        BoardMachine m = new BoardMachine();
        m.set(Check.P, 4);
        Check.write(m, T + 5, 0);
        Check.write(m, T + 9, 0);
        Check.due("IFR", m.count(8), 96);
        return m;
    }

    private static void registers() {
        BoardMachine m = new BoardMachine();
        Check.write(m, T + 6, 0x35);
        Check.write(m, T + 7, 0x13);
        Check.write(m, T + 11, 0xBF);
        Check.write(m, T + 14, 0x95);
        long one = m.count(5);
        int[] want = {0, 0, 0, 0, (int) one & 255, (int) one >> 8, 0x35, 0x13, (int) one & 255, (int) one >> 8,
            0, 0xBF, 0, 0, 0x95, 0};
        for (int i = 0; i < 16; i++) {
            Check.due("look of register " + i, m.look(T + i), want[i]);
        }
        // Read by the processor, a counter shows what it was ahead of that step.
        Check.due("register 4 read", Check.read(m, T + 4), (int) one & 255);
        Check.due("register 4 read, four cycles on", Check.read(m, T + 4), (int) one - 4 & 255);
        Check.due("register 8 read", Check.read(m, T + 8), (int) one - 8 & 255);
        Check.due("register 11 read", Check.read(m, T + 11), 0xBF);
        Check.due("register 6 read", Check.read(m, T + 6), 0x35);
        Check.due("register 7 read", Check.read(m, T + 7), 0x13);
        Check.due("register 14 read", Check.read(m, T + 14), 0x95);
    }

    private static void others() {
        for (int register : new int[] {0, 1, 2, 3, 10, 12, 15}) {
            BoardMachine m = flagged();
            Check.write(m, T + 6, 0x55);
            Check.write(m, T + 14, 0x81);
            String kept = kept(m);
            Check.write(m, T + register, 0xFF);
            Check.due("register " + register, Check.read(m, T + register), 0);
            Check.due("register " + register + " looked at", m.look(T + register), 0);
            Check.same("behind register " + register, kept(m), kept);
        }
    }

    private static String kept(BoardMachine m) {
        return m.count(7) + " " + m.count(8) + " " + m.count(9) + " " + m.look(T + 11) + " " + (m.count(0) + m.count(5));
    }

    private static void reading() {
        int[] want = {96, 96, 96, 96, 32, 96, 96, 96, 64, 96, 96, 96, 96, 96, 96, 96};
        for (int register = 0; register < 16; register++) {
            BoardMachine m = flagged();
            m.look(T + register);
            Check.due("IFR behind a look at " + register, m.count(8), 96);
            Check.read(m, T + register);
            Check.due("IFR behind reading " + register, m.count(8), want[register]);
        }
    }

    private static void writingLatch() {
        for (int lower : new int[] {4, 6}) {
            for (int v : new int[] {0, 1, 255}) {
                BoardMachine m = flagged();
                Check.write(m, T + 7, 0xA5);
                Check.due("IFR behind writing 7", m.count(8), 32);
                Check.due("latch 1 behind writing 7", m.count(7), 0xA500);
                long sum = m.count(0) + m.count(5);
                Check.write(m, T + lower, v);
                Check.due("latch 1 behind writing " + lower, m.count(7), 0xA500 + v);
                Check.write(m, T + 7, v);
                Check.due("latch 1 behind writing 7", m.count(7), 257 * v);
                Check.due("counter 1 goes on", m.count(0) + m.count(5), sum);
                BoardMachine n = flagged();
                Check.write(n, T + lower, v);
                Check.due("IFR behind writing " + lower, n.count(8), 96);
                Check.write(n, T + lower, 255 - v);
                Check.due("latch 1 behind writing " + lower + " again", n.count(7), 255 - v);
            }
        }
    }

    private static void writing5() {
        for (int v : new int[] {0, 1, 255}) {
            for (int low : new int[] {4, 5, 255}) {
                BoardMachine m = flagged();
                Check.write(m, T + 4, low);
                Check.write(m, T + 5, v);
                Check.due("latch 1", m.count(7), 256 * v + low);
                Check.due("counter 1, four cycles on", m.count(5), 256 * v + low - 4);
                Check.due("IFR behind writing 5", m.count(8), 32);
            }
        }
        // One that was not armed is by it: behind the counter's end bit 6 comes.
        BoardMachine armed = new BoardMachine();
        Check.write(armed, T + 4, 5);
        Check.write(armed, T + 5, 0);
        Check.cycles(armed, 1);
        Check.due("IFR at 0", armed.count(8), 0);
        Check.cycles(armed, 1);
        Check.due("IFR behind 0", armed.count(8), 64);
        // Writing 4, 6 and 7 arms nothing.
        BoardMachine not = new BoardMachine();
        Check.write(not, T + 4, 5);
        Check.write(not, T + 6, 5);
        Check.write(not, T + 7, 0);
        round(not);
        Check.due("IFR behind 65536 cycles and more", not.count(8), 0);
    }

    /** 30000 branches to themselves: 90000 cycles. */
    private static void round(BoardMachine m) {
        m.load(0x320, 0x80FE, 2);
        m.set(Check.PC, 0x320);
        m.run(30000);
    }

    private static void writing8And9() {
        for (int v : new int[] {0, 1, 255}) {
            for (int low : new int[] {4, 5, 255}) {
                BoardMachine m = flagged();
                long sum = m.count(0) + m.count(6);
                Check.write(m, T + 8, low);
                Check.due("counter 2 goes on", m.count(0) + m.count(6), sum);
                Check.due("IFR behind writing 8", m.count(8), 96);
                Check.write(m, T + 9, v);
                Check.due("counter 2, four cycles on", m.count(6), 256 * v + low - 4);
                Check.due("IFR behind writing 9", m.count(8), 64);
                Check.due("latch 1", m.count(7), 0);
                Check.write(m, T + 9, 7);
                Check.due("counter 2 by that lower byte again", m.count(6), 256 * 7 + low - 4);
            }
        }
        BoardMachine armed = new BoardMachine();
        Check.write(armed, T + 8, 5);
        Check.write(armed, T + 9, 0);
        Check.cycles(armed, 1);
        Check.due("IFR at 0", armed.count(8), 0);
        Check.cycles(armed, 1);
        Check.due("IFR behind 0", armed.count(8), 32);
        BoardMachine not = new BoardMachine();
        Check.write(not, T + 8, 5);
        round(not);
        Check.due("IFR behind 65536 cycles and more", not.count(8), 0);
    }

    private static void writing13() {
        for (int v = 0; v < 256; v++) {
            BoardMachine m = flagged();
            Check.write(m, T + 13, v);
            Check.due("IFR behind writing " + v + " to 13", m.count(8), 96 & ~v);
            Check.due("13 read", m.look(T + 13), 96 & ~v);
        }
        // Bits that are 0 are not made 1.
        BoardMachine m = new BoardMachine();
        Check.write(m, T + 13, 255);
        Check.due("IFR", m.count(8), 0);
    }

    private static void writing14() {
        BoardMachine m = new BoardMachine();
        int[][] rows = {{0x80, 0}, {0x81, 1}, {0x82, 3}, {0xC0, 0x43}, {0x00, 0x43}, {0x01, 0x42}, {0x7F, 0},
            {0x7F, 0}, {0xFF, 0x7F}, {0x80, 0x7F}, {0x40, 0x3F}, {0x3E, 1}, {0x01, 0}};
        for (int[] row : rows) {
            m.set(Check.P, 4);
            Check.write(m, T + 14, row[0]);
            Check.due("IER behind writing " + row[0] + " to 14", m.count(9), row[1]);
            Check.due("14 read", m.look(T + 14), row[1] | 128);
        }
    }

    private static void bit7() {
        // IER, IFR, what 13 reads.
        for (int ier : new int[] {0, 0x1F, 0x20, 0x40, 0x60, 0x7F}) {
            for (int ifr : new int[] {0, 32, 64, 96}) {
                BoardMachine m = flagged();
                Check.write(m, T + 14, ier | 128);
                Check.write(m, T + 13, 96 - ifr);
                int want = (ier & ifr) != 0 ? ifr | 128 : ifr;
                Check.due("13 looked at, IER " + ier + ", IFR " + ifr, m.look(T + 13), want);
                Check.due("13 read, IER " + ier + ", IFR " + ifr, Check.read(m, T + 13), want);
                Check.due("count(8) is without bit 7", m.count(8), ifr);
                Check.due("14 read", Check.read(m, T + 14), ier | 128);
                Check.due("count(9) is without bit 7", m.count(9), ier);
            }
        }
    }

    private static void goingRound() {
        BoardMachine m = new BoardMachine();
        Check.write(m, T + 4, 6);
        Check.write(m, T + 5, 0);
        Check.write(m, T + 8, 6);
        Check.write(m, T + 9, 0);
        Check.due("counter 1, twelve cycles behind 6", m.count(5), 65536 + 6 - 12);
        Check.due("counter 2", m.count(6), 2);
        int[] want = {1, 0, 65535, 65534};
        for (int w : want) {
            Check.cycles(m, 1);
            Check.due("counter 2, a cycle on", m.count(6), w);
        }
        BoardMachine n = new BoardMachine();
        Check.write(n, T + 4, 6);
        Check.write(n, T + 5, 0);
        for (int w : want) {
            Check.cycles(n, 1);
            Check.due("counter 1, a cycle on", n.count(5), w);
        }
        // From 65535 on, at first, 65535 cycles lead to 0: 21845 branches of three.
        BoardMachine first = new BoardMachine();
        first.load(0x320, 0x80FE, 2);
        first.set(Check.PC, 0x320);
        first.run(21845);
        Check.due("counter 1 behind 65535 cycles", first.count(5), 0);
        Check.due("counter 2 behind 65535 cycles", first.count(6), 0);
        Check.cycles(first, 1);
        Check.due("counter 1 behind 65536 cycles", first.count(5), 65535);
        Check.due("counter 2 behind 65536 cycles", first.count(6), 65535);
        // Within one step of many cycles, ending at 0, one and two behind it.
        for (int start = 0; start < 12; start++) {
            BoardMachine step = new BoardMachine();
            Check.write(step, T + 4, start + 4);
            Check.write(step, T + 5, 0);
            step.load(0x320, 0x5C0000, 3);
            step.set(Check.PC, 0x320);
            step.step();
            Check.due("counter 1 of " + start + ", 8 cycles on", step.count(5), start - 8 & 0xFFFF);
            Check.due("IFR of " + start + ", 8 cycles on", step.count(8), start < 8 ? 64 : 0);
        }
    }

    private static void latchAgain() {
        // How counter 1 goes round, cycle by cycle, and by a step of eight cycles.
        for (int latch : new int[] {0, 1, 2, 7, 65535}) {
            for (int acr : new int[] {64, 255, 0, 255 - 64}) {
                BoardMachine m = new BoardMachine();
                Check.write(m, T + 4, 4);
                Check.write(m, T + 5, 0);
                Check.due("counter 1", m.count(5), 0);
                Check.write(m, T + 11, acr);
                Check.write(m, T + 6, latch & 255);
                Check.write(m, T + 7, latch >> 8);
                Check.write(m, T + 4, latch & 255);
                follow(m, (acr & 64) != 0 ? latch : 65535);
            }
        }
    }

    private static void follow(BoardMachine m, int top) {
        int now = (int) m.count(5);
        for (int i = 0; i < 20; i++) {
            now = now == 0 ? top : now - 1;
            Check.cycles(m, 1);
            Check.due("counter 1, cycle " + i, m.count(5), now);
        }
        for (int i = 0; i < 9; i++) {
            now = now == 0 ? top : now - 1;
        }
        // A step of eight cycles, and one of one.
        m.load(0x320, 0x5C000003, 4);
        m.set(Check.PC, 0x320);
        m.run(2);
        Check.due("counter 1, nine cycles on", m.count(5), now);
        Check.due("counter 2 knows no latch 1", m.count(6), 65535 - m.count(0));
    }

    private static void armedOnce() {
        BoardMachine m = flagged();
        Check.write(m, T + 13, 96);
        Check.due("IFR made 0", m.count(8), 0);
        round(m);
        Check.due("IFR behind another round", m.count(8), 0);
        // Each has its own: the one that is not armed does nothing.
        BoardMachine one = new BoardMachine();
        Check.write(one, T + 5, 0);
        round(one);
        Check.due("IFR of counter 1 alone", one.count(8), 64);
        BoardMachine two = new BoardMachine();
        Check.write(two, T + 9, 0);
        round(two);
        Check.due("IFR of counter 2 alone", two.count(8), 32);
        BoardMachine none = new BoardMachine();
        round(none);
        Check.due("IFR without arming", none.count(8), 0);
        Check.due("counter 1 went round", none.count(5), 65535 + 65536 - 90000);
    }

    private static void staysArmed() {
        BoardMachine m = new BoardMachine();
        Check.write(m, T + 11, 64);
        Check.write(m, T + 4, 9);
        Check.write(m, T + 5, 0);
        for (int i = 0; i < 3; i++) {
            // Ten cycles from latch to latch: four of the write, six more.
            Check.cycles(m, 6);
            Check.due("counter 1", m.count(5), 9);
            Check.due("IFR, time " + i, m.count(8), 64);
            Check.write(m, T + 13, 64);
            Check.due("IFR made 0", m.count(8), 0);
        }
        // Without the bit it comes once more, and never again.
        Check.write(m, T + 11, 255 - 64);
        Check.due("counter 1", m.count(5), 1);
        Check.cycles(m, 2);
        Check.due("IFR", m.count(8), 64);
        Check.due("counter 1", m.count(5), 65535);
        Check.write(m, T + 13, 64);
        round(m);
        Check.due("IFR", m.count(8), 0);
        // The bit alone arms nothing.
        BoardMachine not = new BoardMachine();
        Check.write(not, T + 11, 64);
        round(not);
        Check.due("IFR of one that is not armed", not.count(8), 0);
        // And counter 2 is armed no more, whatever ACR is.
        BoardMachine two = new BoardMachine();
        Check.write(two, T + 11, 255);
        Check.write(two, T + 9, 0);
        Check.write(two, T + 13, 32);
        round(two);
        Check.due("IFR of counter 2", two.count(8), 0);
    }

    private static void irq() {
        for (int ier : new int[] {0, 0x1F, 0x20, 0x40, 0x60}) {
            for (int ifr : new int[] {0, 32, 64, 96}) {
                BoardMachine m = flagged();
                Check.write(m, T + 14, ier | 128);
                Check.write(m, T + 13, 96 - ifr);
                m.load(0x320, 0xEA, 1);
                m.set(Check.PC, 0x320);
                m.set(Check.P, 0);
                boolean there = (ier & ifr) != 0;
                Check.due("step(), IER " + ier + ", IFR " + ifr, m.step(), there ? 7 : 2);
                Check.due("interrupts", m.count(14), there ? 1 : 0);
            }
        }
    }
}
