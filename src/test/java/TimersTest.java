/** Promise 4: the timers, with promise 15's view of them. */
public final class TimersTest {
    public static void main(String[] args) {
        writing();
        once();
        again();
        second();
        flagsAndMask();
        unusedRegisters();
        Check.end();
    }

    private static void store(BoardMachine m, int register, int value) {
        m.load(0x300, 0x8D00A0L + 256 * register, 3);
        m.set(Check.PC, 0x300);
        m.set(Check.A, value);
        Check.due("STA of " + register, m.step(), 4);
    }

    private static void cycles(BoardMachine m, int n) {
        // 0x03 takes one cycle.
        m.load(0x400, 0x03, 1);
        for (int i = 0; i < n; i++) {
            m.set(Check.PC, 0x400);
            m.step();
        }
    }

    private static int read(BoardMachine m, int register) {
        m.load(0x310, 0xAD00A0L + 256 * register, 3);
        m.set(Check.PC, 0x310);
        m.step();
        return m.register(Check.A);
    }

    private static void writing() {
        BoardMachine m = new BoardMachine();
        store(m, 4, 0x34);
        Check.due("latch 1 by 4", m.count(7), 0x34);
        Check.due("counter 1 goes on", m.count(5), 65531);
        store(m, 7, 0x12);
        Check.due("latch 1 by 7", m.count(7), 0x1234);
        Check.due("counter 1 goes on", m.count(5), 65527);
        store(m, 6, 0x55);
        Check.due("latch 1 by 6", m.count(7), 0x1255);
        store(m, 6, 0x56);
        Check.due("latch 1 by 6", m.count(7), 0x1256);
        store(m, 5, 0x78);
        Check.due("latch 1 by 5", m.count(7), 0x7856);
        Check.due("counter 1 by 5, four cycles on", m.count(5), 0x7852);
        Check.due("look 4", m.look(0xA004), 0x52);
        Check.due("look 5", m.look(0xA005), 0x78);
        Check.due("look 6", m.look(0xA006), 0x56);
        Check.due("look 7", m.look(0xA007), 0x78);
        store(m, 8, 0x21);
        Check.due("counter 2 goes on", m.count(6), 65535 - 24);
        store(m, 9, 0x43);
        Check.due("counter 2 by 9, four cycles on", m.count(6), 0x431D);
        store(m, 9, 0x44);
        Check.due("the lower byte of latch 2 stays", m.count(6), 0x441D);
        Check.due("look 8", m.look(0xA008), 0x1D);
        Check.due("look 9", m.look(0xA009), 0x44);
        store(m, 11, 0xA5);
        Check.due("look 11", m.look(0xA00B), 0xA5);
        Check.due("latch 1 stays by 8, 9, 11", m.count(7), 0x7856);
    }

    private static void once() {
        BoardMachine m = new BoardMachine();
        store(m, 4, 6);
        store(m, 5, 0);
        Check.due("counter 1", m.count(5), 2);
        cycles(m, 2);
        Check.due("counter 1 at 0", m.count(5), 0);
        Check.due("IFR at 0", m.count(8), 0);
        cycles(m, 1);
        Check.due("counter 1 behind 0", m.count(5), 65535);
        Check.due("IFR behind 0", m.count(8), 64);
        store(m, 13, 64);
        Check.due("IFR made 0", m.count(8), 0);
        m.load(0x500, 0x80FE, 2);
        m.set(Check.PC, 0x500);
        m.run(30000);
        Check.due("counter 1 behind 90004 cycles", m.count(5), 65535 - 90004 + 65536);
        Check.due("IFR, armed no more", m.count(8), 0);
        // 5 makes bit 6 of IFR 0, and so does 7, and reading 4; reading 5 does not.
        store(m, 4, 3);
        store(m, 5, 0);
        Check.due("round inside the very step that writes", m.count(5), 65535);
        Check.due("IFR", m.count(8), 64);
        read(m, 5);
        read(m, 6);
        read(m, 8);
        store(m, 4, 3);
        store(m, 6, 3);
        Check.due("IFR stays by these", m.count(8), 64);
        store(m, 7, 1);
        Check.due("7 makes it 0", m.count(8), 0);
        store(m, 5, 0);
        Check.due("IFR again", m.count(8), 64);
        read(m, 4);
        Check.due("reading 4 makes it 0", m.count(8), 0);
        store(m, 5, 0);
        store(m, 5, 1);
        Check.due("5 makes it 0", m.count(8), 0);
    }

    private static void again() {
        BoardMachine m = new BoardMachine();
        store(m, 11, 64);
        store(m, 4, 5);
        store(m, 5, 0);
        Check.due("counter 1", m.count(5), 1);
        cycles(m, 2);
        Check.due("counter 1 becomes the latch", m.count(5), 5);
        Check.due("IFR", m.count(8), 64);
        store(m, 13, 64);
        Check.due("counter 1", m.count(5), 1);
        Check.due("IFR", m.count(8), 0);
        cycles(m, 2);
        Check.due("IFR once more: it stays armed", m.count(8), 64);
        Check.due("counter 1 becomes the latch once more", m.count(5), 5);
        store(m, 11, 255 - 64);
        read(m, 4);
        Check.due("without the bit it becomes 65535", m.count(5), 65535 - 2);
        Check.due("IFR", m.count(8), 64);
        // Not armed, with the bit: the latch, but no bit of IFR.
        BoardMachine n = new BoardMachine();
        store(n, 11, 0xFF);
        n.load(0x500, 0x80FE, 2);
        n.set(Check.PC, 0x500);
        n.run(21843);
        Check.due("counter 1", n.count(5), 2);
        n.step();
        Check.due("counter 1, latch 1 being 0", n.count(5), 0);
        Check.due("IFR", n.count(8), 0);
        Check.due("counter 2 does not become a latch", n.count(6), 65535);
    }

    private static void second() {
        BoardMachine m = new BoardMachine();
        store(m, 11, 255);
        store(m, 8, 5);
        store(m, 9, 0);
        Check.due("counter 2", m.count(6), 1);
        cycles(m, 1);
        Check.due("IFR at 0", m.count(8), 0);
        cycles(m, 1);
        Check.due("counter 2 behind 0", m.count(6), 65535);
        Check.due("IFR", m.count(8), 32);
        read(m, 9);
        read(m, 4);
        Check.due("IFR stays", m.count(8), 32);
        Check.due("reading 8", read(m, 8), 65535 - 8 & 255);
        Check.due("makes it 0", m.count(8), 0);
        m.load(0x500, 0x80FE, 2);
        m.set(Check.PC, 0x500);
        m.run(30000);
        Check.due("IFR, armed no more", m.count(8), 0);
        store(m, 8, 0);
        store(m, 9, 0);
        Check.due("IFR", m.count(8), 32);
        store(m, 8, 0);
        Check.due("8 leaves it", m.count(8), 32);
        store(m, 9, 1);
        Check.due("9 makes it 0", m.count(8), 0);
    }

    private static void flagsAndMask() {
        BoardMachine m = new BoardMachine();
        m.set(Check.P, 4);
        store(m, 5, 0);
        store(m, 9, 0);
        Check.due("IFR", m.count(8), 96);
        Check.due("IFR read without IER", m.look(0xA00D), 96);
        store(m, 14, 0x9F);
        Check.due("IER", m.count(9), 0x1F);
        Check.due("IER read", m.look(0xA00E), 0x9F);
        Check.due("IFR read with other bits of IER", m.look(0xA00D), 96);
        store(m, 14, 0xA0);
        Check.due("IER with bit 5", m.count(9), 0x3F);
        Check.due("IFR read with a bit of IER", m.look(0xA00D), 224);
        store(m, 14, 0x1D);
        Check.due("IER without 0, 2, 3, 4", m.count(9), 0x22);
        store(m, 13, 0x5F);
        Check.due("IFR without bit 6", m.count(8), 32);
        store(m, 13, 0x80);
        Check.due("bit 7 written does nothing", m.count(8), 32);
        Check.due("I 1 held it off", m.count(14), 0);
        m.set(Check.P, 0);
        m.step();
        Check.due("I 0 lets it come", m.count(14), 1);
        BoardMachine n = new BoardMachine();
        n.set(Check.P, 4);
        store(n, 5, 0);
        store(n, 14, 0xC0);
        n.set(Check.P, 0);
        n.step();
        Check.due("bit 6 with IER's bit 6 interrupts", n.count(14), 1);
    }

    private static void unusedRegisters() {
        BoardMachine m = new BoardMachine();
        for (int register : new int[] {0, 1, 2, 3, 10, 12, 15}) {
            store(m, register, 255);
            Check.due("look of register " + register, m.look(0xA000 + register), 0);
            Check.due("reading register " + register, read(m, register), 0);
        }
        Check.due("latch 1", m.count(7), 0);
        Check.due("IFR", m.count(8), 0);
        Check.due("IER", m.count(9), 0);
        Check.due("ACR", m.look(0xA00B), 0);
    }
}
