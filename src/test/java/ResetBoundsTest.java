/** The sentences of 'A RESET' and of promises 1, 3 and 6: what changes, and what stays. */
public final class ResetBoundsTest {
    public static void main(String[] args) {
        Check.sentence("S 0xFD, I 1, D 0 (other flags and A, X, Y stay)", ResetBoundsTest::registers);
        Check.sentence("PC the word at 0xFFFC", ResetBoundsTest::vector);
        Check.sentence("nothing waits, stops, or is latched", ResetBoundsTest::states);
        Check.sentence("the bank 0", ResetBoundsTest::bank);
        Check.sentence("timers (counters 65535, latches, ACR, IFR, IER 0, not armed)", ResetBoundsTest::timers);
        Check.sentence("the port (command 0, nothing waiting; what was sent stays) as at first", ResetBoundsTest::port);
        Check.sentence("As at first: A, X, Y, P's flags 0, S 0, PC 0, and devices so", ResetBoundsTest::atFirst);
        Check.sentence("The board, switched on, with memory 0", ResetBoundsTest::newOnes);
        Check.sentence("A reset", ResetBoundsTest::whatStays);
        Check.sentence("An edge of NMI is latched", ResetBoundsTest::edge);
        Check.end();
    }

    private static void registers() {
        for (int p = 0; p < 256; p++) {
            BoardMachine m = new BoardMachine();
            m.set(Check.A, 255 - p);
            m.set(Check.X, p);
            m.set(Check.Y, p ^ 0x55);
            m.set(Check.S, p);
            m.set(Check.P, p);
            m.reset();
            int[] want = {255 - p, p, p ^ 0x55, 0xFD, p & ~8 | 4 | 48, 0};
            for (int i = 0; i < 6; i++) {
                Check.due("register(" + i + ") behind a reset with P " + p, m.register(i), want[i]);
            }
        }
    }

    private static void vector() {
        BoardMachine m = new BoardMachine();
        m.load(0xFFF8, 0x1122334455667788L, 8);
        m.reset();
        Check.due("PC", m.register(Check.PC), 0x6655);
        m.load(0xFFFC, 0xFFFF, 2);
        m.reset();
        Check.due("PC", m.register(Check.PC), 65535);
        m.load(0xFFFC, 0, 2);
        m.reset();
        Check.due("PC", m.register(Check.PC), 0);
        Check.due("cycles: it is no step", m.count(0), 0);
        Check.due("steps", m.count(1), 0);
        Check.due("interrupts", m.count(14), 0);
        Check.due("the trace", m.trace(0), BoardMachine.NONE);
        Check.due("nothing is pushed", m.look(0x1FD) + m.look(0x1FE) + m.look(0x1FF) + m.look(0x100), 0);
    }

    private static void states() {
        BoardMachine waits = Check.at(0, 0xCB);
        waits.step();
        Check.due("it waits", waits.count(10), 1);
        waits.reset();
        Check.due("it waits no more", waits.count(10), 0);
        Check.due("an instruction again: WAI", waits.step(), 3);
        BoardMachine stops = Check.at(0, 0xDB);
        stops.step();
        Check.due("it is stopped", stops.count(11), 1);
        stops.reset();
        Check.due("it is stopped no more", stops.count(11), 0);
        Check.due("an instruction again: STP", stops.step(), 3);
        BoardMachine latched = Check.at(0, 0xEA);
        latched.nmi();
        latched.reset();
        Check.due("latched no more", latched.count(12), 0);
        Check.due("an instruction, no interrupt", latched.step(), 2);
        Check.due("interrupts", latched.count(14), 0);
    }

    private static void bank() {
        for (int k = 0; k < 4; k++) {
            BoardMachine m = new BoardMachine();
            m.load(0x8000, 0x40, 1);
            Check.write(m, 0xA020, k);
            m.load(0x8000, 0x50 + k, 1);
            m.reset();
            Check.due("the bank behind " + k, m.count(4), 0);
            Check.due("0xA020", m.look(0xA020), 0);
            Check.due("0x8000 is bank 0's", m.look(0x8000), k == 0 ? 0x50 : 0x40);
            Check.write(m, 0xA020, k);
            Check.due("bank " + k + " keeps its bytes", m.look(0x8000), 0x50 + k);
        }
    }

    private static void timers() {
        BoardMachine m = new BoardMachine();
        m.set(Check.P, 4);
        int[] registers = {4, 5, 8, 9, 11, 14};
        for (int register : registers) {
            Check.write(m, 0xA000 + register, register == 5 || register == 9 ? 0 : 0xFF);
        }
        m.run(0);
        Check.cycles(m, 256);
        Check.due("IFR ahead of it", m.count(8), 96);
        m.reset();
        long[] want = {65535, 65535, 0, 0, 0};
        for (int i = 0; i < want.length; i++) {
            Check.due("count(" + (5 + i) + ")", m.count(5 + i), want[i]);
        }
        int[] looks = {0, 0, 0, 0, 255, 255, 0, 0, 255, 255, 0, 0, 0, 0, 128, 0};
        for (int i = 0; i < 16; i++) {
            Check.due("register " + i, m.look(0xA000 + i), looks[i]);
        }
        // The lower byte of latch 2 shows when 9 is written.
        Check.write(m, 0xA009, 1);
        Check.due("counter 2 by 9", m.count(6), 256 - 4);
        notArmed(5, 64);
        notArmed(9, 32);
    }

    private static void notArmed(int register, int bit) {
        for (int resets = 0; resets < 2; resets++) {
            BoardMachine m = new BoardMachine();
            Check.write(m, 0xA000 + register, 0xFF);
            if (resets == 1) {
                m.reset();
            }
            m.load(0x320, 0x80FE, 2);
            m.set(Check.PC, 0x320);
            m.run(30000);
            Check.due("IFR by " + register + " with resets " + resets, m.count(8), resets == 1 ? 0 : bit);
        }
    }

    private static void port() {
        BoardMachine m = new BoardMachine();
        m.set(Check.P, 4);
        Check.write(m, 0xA012, 255);
        Check.write(m, 0xA010, 41);
        Check.write(m, 0xA010, 42);
        for (int i = 0; i < 64; i++) {
            m.receive(100 + i);
        }
        Check.read(m, 0xA010);
        m.reset();
        Check.due("the command", m.look(0xA012), 0);
        Check.due("bytes that wait", m.count(3), 0);
        Check.due("0xA010", m.look(0xA010), 0);
        Check.due("0xA010 read", Check.read(m, 0xA010), 0);
        Check.due("0xA011", m.look(0xA011), 16);
        Check.due("bytes sent in all", m.count(2), 2);
        Check.due("sent(0)", m.sent(0), 41);
        Check.due("sent(1)", m.sent(1), 42);
        Check.due("sent(2)", m.sent(2), BoardMachine.NONE);
        Check.write(m, 0xA010, 43);
        Check.due("sent(2) behind another one", m.sent(2), 43);
        for (int i = 1; i <= 64; i++) {
            Check.due("receive behind a reset", m.receive(i), i);
        }
        Check.due("receive when 64 wait", m.receive(65), BoardMachine.NONE);
        Check.due("the oldest", Check.read(m, 0xA010), 1);
        Check.due("the next", Check.read(m, 0xA010), 2);
    }

    private static void atFirst() {
        BoardMachine m = new BoardMachine();
        int[] registers = {0, 0, 0, 0, 48, 0};
        for (int i = 0; i < 6; i++) {
            Check.due("register(" + i + ") at first", m.register(i), registers[i]);
        }
        for (int i = 0; i < 15; i++) {
            Check.due("count(" + i + ") at first", m.count(i), i == 5 || i == 6 ? 65535 : 0);
        }
        for (int i = 0xA000; i < 0xA022; i++) {
            int want = switch (i) {
                case 0xA004, 0xA005, 0xA008, 0xA009 -> 255;
                case 0xA00E -> 128;
                case 0xA011 -> 16;
                default -> 0;
            };
            Check.due("look(" + i + ") at first", m.look(i), want);
        }
        // Neither counter is armed, and the lower byte of latch 2 is 0.
        m.load(0x320, 0x80FE, 2);
        m.set(Check.PC, 0x320);
        m.run(30000);
        Check.due("IFR behind a round", m.count(8), 0);
        Check.write(m, 0xA009, 1);
        Check.due("counter 2 by 9", m.count(6), 256 - 4);
    }

    private static void newOnes() {
        // One that has been used leaves nothing behind for a new one.
        BoardMachine used = new BoardMachine();
        for (int at : new int[] {0, 0x7FFF, 0x8000, 0x9FFF, 0xC000, 0xFFFF}) {
            used.load(at, 0xFF, 1);
        }
        used.receive(1);
        Check.write(used, 0xA010, 2);
        Check.write(used, 0xA020, 3);
        used.setBreak(1);
        used.nmi();
        BoardMachine m = new BoardMachine();
        for (int at : new int[] {0, 0x7FFF, 0x8000, 0x9FFF, 0xC000, 0xFFFF}) {
            Check.due("look(" + at + ") of a new one", m.look(at), 0);
        }
        Check.due("bytes that wait", m.count(3), 0);
        Check.due("bytes sent", m.count(2), 0);
        Check.due("the bank", m.count(4), 0);
        Check.due("break points", m.count(13), 0);
        Check.due("clearBreak(1)", m.clearBreak(1), false);
        Check.due("latched", m.count(12), 0);
        Check.due("sent(0)", m.sent(0), BoardMachine.NONE);
        Check.due("trace(0)", m.trace(0), BoardMachine.NONE);
        Check.due("a step of it is BRK", m.step(), 7);
    }

    private static void whatStays() {
        BoardMachine m = Check.at(0x320, 0xEA, 0xEA);
        Check.steps(m, 2);
        m.nmi();
        m.step();
        m.setBreak(5);
        m.load(0x40, 0x41, 1);
        m.reset();
        m.reset();
        Check.due("cycles", m.count(0), 11);
        Check.due("steps", m.count(1), 2);
        Check.due("interrupts", m.count(14), 1);
        Check.due("break points", m.count(13), 1);
        Check.due("clearBreak(5)", m.clearBreak(5), true);
        Check.due("trace(0)", m.trace(0), 0x320);
        Check.due("trace(1)", m.trace(1), 0x321);
        Check.due("trace(2)", m.trace(2), BoardMachine.NONE);
        Check.due("memory", m.look(0x40), 0x41);
    }

    private static void edge() {
        BoardMachine m = Check.at(0x320, 0xEA, 0xEA);
        m.load(0xFFFA, 0x4003, 2);
        m.load(0x340, 0xEA, 1);
        Check.due("latched ahead of it", m.count(12), 0);
        for (int i = 0; i < 3; i++) {
            m.nmi();
            Check.due("latched", m.count(12), 1);
        }
        Check.due("cycles: it is no step", m.count(0), 0);
        Check.due("PC", m.register(Check.PC), 0x320);
        Check.due("the interrupt", m.step(), 7);
        Check.due("latched no more", m.count(12), 0);
        Check.due("three edges are one", m.step(), 2);
        Check.due("interrupts", m.count(14), 1);
        // A new one, inside the first.
        m.nmi();
        Check.due("another interrupt", m.step(), 7);
        Check.due("interrupts", m.count(14), 2);
        Check.due("PC", m.register(Check.PC), 0x340);
    }
}
