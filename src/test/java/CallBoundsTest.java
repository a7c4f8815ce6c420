/** The sentences of promises 2, 5 and 9 to 15 that name a bound: each just inside of it and just outside. */
public final class CallBoundsTest {
    private static final int LEAST = Integer.MIN_VALUE;
    private static final int MOST = Integer.MAX_VALUE;

    public static void main(String[] args) {
        Check.sentence("An object is used for at most 512 calls after it has been made", CallBoundsTest::calls);
        Check.sentence("The n lowest bytes of bytes, the highest of them first, come to addresses from address on",
                CallBoundsTest::loadBytes);
        Check.sentence("to memory, the current bank's, or the fixed one (what lies at devices is passed over)",
                CallBoundsTest::loadPlaces);
        Check.sentence("IllegalArgumentException when n is not 1 .. 8", CallBoundsTest::loadN);
        Check.sentence("or not all addresses are 0 .. 65535", CallBoundsTest::loadAddresses);
        Check.sentence("Up to n steps: 0 all were made", CallBoundsTest::runAll);
        Check.sentence("1 PC is a break point (asked behind each step)", CallBoundsTest::runToBreak);
        Check.sentence("2 it is stopped (asked behind each step, ahead of this, and at first)",
                CallBoundsTest::runToStop);
        Check.sentence("IllegalArgumentException when n is not 0 .. 100000", CallBoundsTest::runN);
        Check.sentence("What reading an address would give, changing nothing", CallBoundsTest::lookChangesNothing);
        Check.sentence("IllegalArgumentException when it is not 0 .. 65535", CallBoundsTest::lookAddress);
        Check.sentence("Register i: 0 A, 1 X, 2 Y, 3 S, 4 P, 5 PC; NONE for others", CallBoundsTest::register);
        Check.sentence("Register i becomes the lowest bits of v that it has (P with bits 16 and 32)",
                CallBoundsTest::setBits);
        Check.sentence("IllegalArgumentException when i is not 0 .. 5", CallBoundsTest::setI);
        Check.sentence("An address is a break point: true; false when it is one", CallBoundsTest::breakTwice);
        Check.sentence("or there are 16", CallBoundsTest::breaksFull);
        Check.sentence("or it is not 0 .. 65535", CallBoundsTest::breakAddress);
        Check.sentence("It is none any more: whether it was", CallBoundsTest::clearing);
        Check.sentence("The i-th of the latest 32 addresses (the oldest first) of which instructions were carried out",
                CallBoundsTest::traceLatest);
        Check.sentence("NONE when there are not so many", CallBoundsTest::traceNone);
        Check.sentence("10 whether it waits, 11 whether it is stopped, 12 whether an edge is latched",
                CallBoundsTest::countStates);
        Check.sentence("8 IFR without bit 7, 9 IER without it", CallBoundsTest::countWithoutBit7);
        Check.sentence("1 steps that carried out an instruction", CallBoundsTest::countInstructions);
        Check.sentence("14 interrupts that were taken (BRK not); NONE for others", CallBoundsTest::countOthers);
        Check.end();
    }

    private static void calls() {
        // Calls 1 to 512; the load that makes it a loop is the first of them.
        BoardMachine m = new BoardMachine();
        m.load(0, 0xE880FD, 3);
        for (int i = 2; i <= 511; i++) {
            m.step();
        }
        Check.due("register(1), the 512th call", m.register(Check.X), 255);
        // The dearest: all of them runs.
        BoardMachine n = new BoardMachine();
        n.load(0, 0x8C10A080FBL, 5);
        for (int i = 2; i <= 511; i++) {
            n.run(20000);
        }
        Check.due("count(2), the 512th call", n.count(2), 510 * 10000);
    }

    private static void loadBytes() {
        long bytes = 0x1122334455667788L;
        for (int n = 1; n <= 8; n++) {
            BoardMachine m = new BoardMachine();
            m.load(0x200, -1, 8);
            m.load(0x208, -1, 8);
            m.load(0x204, bytes, n);
            Check.due("the byte ahead of " + n, m.look(0x203), 255);
            for (int i = 0; i < n; i++) {
                Check.due("byte " + i + " of " + n, m.look(0x204 + i), 0x11 * (8 - n + i + 1));
            }
            Check.due("the byte behind " + n, m.look(0x204 + n), 255);
        }
        BoardMachine signs = new BoardMachine();
        signs.load(0x200, Long.MIN_VALUE, 8);
        Check.due("the highest byte of the least number", signs.look(0x200), 128);
        Check.due("the lowest byte of it", signs.look(0x207), 0);
        signs.load(0x210, Long.MAX_VALUE, 8);
        Check.due("the highest byte of the greatest number", signs.look(0x210), 127);
        Check.due("the lowest byte of it", signs.look(0x217), 255);
        signs.load(0x220, -256, 1);
        Check.due("the lowest byte of -256", signs.look(0x220), 0);
        signs.load(0x228, 0xFFL << 32 | 0x12, 4);
        Check.due("the fourth byte of five", signs.look(0x228), 0);
    }

    private static void loadPlaces() {
        BoardMachine m = new BoardMachine();
        m.load(0x7FFC, 0x0102030405060708L, 8);
        Check.due("at 0x7FFF", m.look(0x7FFF), 4);
        Check.due("at 0x8000", m.look(0x8000), 5);
        Check.write(m, 0xA020, 1);
        Check.due("at 0x7FFF with bank 1", m.look(0x7FFF), 4);
        Check.due("at 0x8000 of bank 1", m.look(0x8000), 0);
        m.load(0x8000, 6, 1);
        Check.write(m, 0xA020, 0);
        Check.due("at 0x8000 of bank 0", m.look(0x8000), 5);
        String state = Check.state(m);
        m.load(0x9FFC, -1, 8);
        for (int at = 0xA000; at < 0xA028; at += 8) {
            m.load(at, -1, 8);
        }
        m.load(0xBFFC, 0x0102030405060708L, 8);
        Check.same("devices behind loads over them", Check.state(m), state);
        Check.due("at 0x9FFF", m.look(0x9FFF), 255);
        Check.due("at 0xBFFF", m.look(0xBFFF), 0);
        Check.due("at 0xC000", m.look(0xC000), 5);
        Check.due("at 0xC003", m.look(0xC003), 8);
        m.load(0xFFFF, 9, 1);
        Check.due("at 0xFFFF", m.look(0xFFFF), 9);
    }

    private static void loadN() {
        BoardMachine m = new BoardMachine();
        for (int n : new int[] {0, 9, -1, 10, 64, 256 + 8, LEAST, MOST}) {
            Check.refused("load(16, -1, " + n + ")", () -> m.load(16, -1, n));
        }
        for (int at = 15; at < 30; at++) {
            Check.due("a refused load writes nothing at " + at, m.look(at), 0);
        }
        m.load(16, -1, 1);
        Check.due("load of 1", m.look(16), 255);
        Check.due("the byte behind it", m.look(17), 0);
        m.load(32, -1, 8);
        Check.due("load of 8", m.look(39), 255);
        Check.due("the byte behind it", m.look(40), 0);
        // Wrong in both ways.
        Check.refused("load(-1, -1, 0)", () -> m.load(-1, -1, 0));
        Check.refused("load(65536, -1, 9)", () -> m.load(65536, -1, 9));
    }

    private static void loadAddresses() {
        for (int n = 1; n <= 8; n++) {
            int many = n;
            BoardMachine m = new BoardMachine();
            for (int at : new int[] {-1, -n, LEAST, LEAST + 7, 65536, 65536 - n + 1, MOST, MOST - n + 1, MOST - n, MOST - 7}) {
                Check.refused("load(" + at + ", -1, " + n + ")", () -> m.load(at, -1, many));
            }
            for (int at : new int[] {0, 1, 7, 65528, 65534, 65535}) {
                Check.due("a refused load of " + n + " writes nothing at " + at, m.look(at), 0);
            }
            m.load(0, -1, n);
            Check.due("load at 0 of " + n, m.look(n - 1), 255);
            Check.due("the byte behind it", m.look(n), 0);
            m.load(65536 - n, -1, n);
            Check.due("load of " + n + " up to 65535", m.look(65535), 255);
            Check.due("its first byte", m.look(65536 - n), 255);
            Check.due("the byte ahead of it", m.look(65535 - n), 0);
        }
    }

    private static void runAll() {
        for (int n : new int[] {0, 1, 2, 99999, 100000}) {
            BoardMachine m = Check.at(0x320, 0x80, 0xFE);
            Check.due("run(" + n + ")", m.run(n), 0);
            Check.due("steps behind run(" + n + ")", m.count(1), n);
            Check.due("cycles behind run(" + n + ")", m.count(0), 3L * n);
        }
        // Waiting steps are steps, too.
        BoardMachine w = Check.at(0x320, 0xCB);
        Check.due("run(10) of WAI", w.run(10), 0);
        Check.due("cycles", w.count(0), 12);
    }

    private static void runToBreak() {
        BoardMachine m = Check.at(0x320, 0xEA, 0xEA, 0xEA, 0x80, 0xFB);
        m.setBreak(0x320);
        m.setBreak(0x323);
        Check.due("run(0) at a break point", m.run(0), 0);
        Check.due("run(2), ahead of one", m.run(2), 0);
        Check.due("PC", m.register(Check.PC), 0x322);
        Check.due("run(1), to one", m.run(1), 1);
        Check.due("PC", m.register(Check.PC), 0x323);
        Check.due("run(100), from one to the next", m.run(100), 1);
        Check.due("PC", m.register(Check.PC), 0x320);
        Check.due("steps", m.count(1), 4);
        m.clearBreak(0x320);
        m.clearBreak(0x323);
        Check.due("run(100) without one", m.run(100), 0);
        Check.due("steps", m.count(1), 104);
        // A branch to itself is at its own address behind the step.
        BoardMachine self = Check.at(0x320, 0x80, 0xFE);
        self.setBreak(0x320);
        Check.due("run(5) of a branch to itself", self.run(5), 1);
        Check.due("steps", self.count(1), 1);
        // An interrupt's step leads to one, too; and a break point at 0 and 65535.
        BoardMachine nmi = Check.at(0x320, 0xEA);
        nmi.load(0xFFFA, 0xFFFF, 2);
        nmi.load(0xFFFF, 0xEA, 1);
        nmi.setBreak(0xFFFF);
        nmi.setBreak(0);
        nmi.nmi();
        Check.due("run(5) into an interrupt", nmi.run(5), 1);
        Check.due("PC", nmi.register(Check.PC), 65535);
        Check.due("run(5) round to 0", nmi.run(5), 1);
        Check.due("PC", nmi.register(Check.PC), 0);
        // It waits at one: asked behind each step.
        BoardMachine w = Check.at(0x320, 0xCB);
        w.setBreak(0x321);
        Check.due("run(5) of WAI", w.run(5), 1);
        Check.due("cycles", w.count(0), 3);
        Check.due("run(5) waiting", w.run(5), 1);
        Check.due("cycles", w.count(0), 4);
        // step() asks for none.
        BoardMachine s = Check.at(0x320, 0xEA, 0xEA);
        s.setBreak(0x321);
        Check.due("step()", Check.steps(s, 2), 2);
        Check.due("PC", s.register(Check.PC), 0x322);
    }

    private static void runToStop() {
        BoardMachine m = Check.at(0x320, 0xEA, 0xEA, 0xDB, 0xEA);
        m.setBreak(0x323);
        Check.due("run(2), ahead of STP", m.run(2), 0);
        Check.due("run(1) of STP, a break point behind it", m.run(1), 2);
        Check.due("PC", m.register(Check.PC), 0x323);
        for (int n : new int[] {0, 1, 100000}) {
            Check.due("run(" + n + ") when stopped", m.run(n), 2);
        }
        Check.due("cycles", m.count(0), 7);
        Check.due("steps", m.count(1), 3);
        // By one run, that ends there.
        BoardMachine one = Check.at(0x320, 0xEA, 0xEA, 0xDB, 0xEA);
        Check.due("run(100)", one.run(100), 2);
        Check.due("steps", one.count(1), 3);
        BoardMachine ahead = Check.at(0x320, 0xEA, 0xDB);
        ahead.setBreak(0x321);
        Check.due("run(100) to a break point ahead of STP", ahead.run(100), 1);
        Check.due("run(100) from there", ahead.run(100), 2);
        ahead.reset();
        Check.due("run(0) behind a reset", ahead.run(0), 0);
    }

    private static void runN() {
        BoardMachine m = Check.at(0x320, 0x80, 0xFE);
        m.setBreak(0x320);
        for (int n : new int[] {-1, 100001, -100000, LEAST, MOST}) {
            Check.refused("run(" + n + ")", () -> m.run(n));
        }
        Check.due("steps behind refused runs", m.count(1), 0);
        Check.due("cycles behind refused runs", m.count(0), 0);
        BoardMachine stopped = Check.at(0x320, 0xDB);
        stopped.step();
        for (int n : new int[] {-1, 100001}) {
            Check.refused("run(" + n + ") when stopped", () -> stopped.run(n));
        }
        BoardMachine most = Check.at(0x320, 0x80, 0xFE);
        Check.answers("run(100000)", () -> most.run(100000), 0);
        Check.answers("run(0)", () -> most.run(0), 0);
    }

    private static void lookChangesNothing() {
        BoardMachine m = new BoardMachine();
        m.set(Check.P, 4);
        Check.write(m, 0xA005, 0);
        Check.write(m, 0xA009, 0);
        Check.write(m, 0xA00E, 0xE0);
        Check.write(m, 0xA012, 1);
        m.receive(7);
        m.receive(8);
        String state = Check.state(m);
        for (int at : new int[] {0, 0x7FFF, 0x8000, 0x9FFF, 0xA004, 0xA008, 0xA00D, 0xA010, 0xA010, 0xA011, 0xFFFF}) {
            m.look(at);
        }
        Check.same("behind looks", Check.state(m), state);
        Check.due("look(0xA010)", m.look(0xA010), 7);
        // What it gave is what reading gives.
        int[] at = {0xA00D, 0xA00E, 0xA011, 0xA012, 0xA005, 0xA004, 0xA009, 0xA008, 0xA010, 0xA010, 0xA010, 0x300};
        for (int address : at) {
            int looked = m.look(address);
            Check.due("reading " + address, Check.read(m, address), looked);
        }
    }

    private static void lookAddress() {
        BoardMachine m = new BoardMachine();
        m.load(0, 0x61, 1);
        m.load(65535, 0x62, 1);
        for (int at : new int[] {-1, 65536, -65536, 131071, LEAST, MOST}) {
            Check.refused("look(" + at + ")", () -> m.look(at));
        }
        Check.answers("look(0)", () -> m.look(0), 0x61);
        Check.answers("look(65535)", () -> m.look(65535), 0x62);
    }

    private static BoardMachine numbered() {
        BoardMachine m = new BoardMachine();
        int[] values = {11, 12, 13, 14, 0xCF, 0x1516};
        for (int i = 0; i < 6; i++) {
            m.set(i, values[i]);
        }
        return m;
    }

    private static void register() {
        BoardMachine m = numbered();
        int[] want = {11, 12, 13, 14, 255, 0x1516};
        for (int i = 0; i < 6; i++) {
            Check.due("register(" + i + ")", m.register(i), want[i]);
        }
        for (int i : new int[] {-1, 6, 7, LEAST, MOST}) {
            Check.due("register(" + i + ")", m.register(i), BoardMachine.NONE);
        }
    }

    private static void setBits() {
        BoardMachine m = numbered();
        for (int v : new int[] {0, 255, 256, 257, 65535, 65536, 65537, -1, -256, LEAST, MOST}) {
            for (int i = 0; i < 6; i++) {
                m.set(i, v);
                int want = i == Check.PC ? v & 65535 : i == Check.P ? v & 255 | 48 : v & 255;
                Check.due("register(" + i + ") set to " + v, m.register(i), want);
            }
        }
    }

    private static void setI() {
        BoardMachine m = numbered();
        String state = Check.state(m);
        for (int i : new int[] {-1, 6, 7, LEAST, MOST}) {
            Check.refused("set(" + i + ", 1)", () -> m.set(i, 1));
        }
        Check.same("behind refused sets", Check.state(m), state);
        m.set(0, 1);
        m.set(5, 2);
        Check.due("register(0)", m.register(0), 1);
        Check.due("register(5)", m.register(5), 2);
    }

    private static void breakTwice() {
        BoardMachine m = new BoardMachine();
        Check.due("setBreak(7)", m.setBreak(7), true);
        Check.due("setBreak(7) again", m.setBreak(7), false);
        Check.due("setBreak(8)", m.setBreak(8), true);
        Check.due("setBreak(7) once more", m.setBreak(7), false);
        Check.due("break points", m.count(13), 2);
        Check.due("clearBreak(7)", m.clearBreak(7), true);
        Check.due("clearBreak(7) again: it was one alone", m.clearBreak(7), false);
        Check.due("setBreak(7) behind it", m.setBreak(7), true);
    }

    private static void breaksFull() {
        BoardMachine m = new BoardMachine();
        for (int i = 0; i < 15; i++) {
            Check.due("setBreak, number " + (i + 1), m.setBreak(100 + i), true);
        }
        Check.due("setBreak, the 16th", m.setBreak(115), true);
        Check.due("break points", m.count(13), 16);
        Check.due("setBreak, the 17th", m.setBreak(116), false);
        Check.due("setBreak of one that is one", m.setBreak(115), false);
        Check.due("break points", m.count(13), 16);
        Check.due("clearBreak of the 17th", m.clearBreak(116), false);
        Check.due("clearBreak of one", m.clearBreak(107), true);
        Check.due("setBreak then", m.setBreak(116), true);
        Check.due("setBreak with 16 again", m.setBreak(107), false);
        // All 16 end a run, and no other address does.
        for (int at = 98; at < 118; at++) {
            m.load(0x320, 0x4C0000L | at << 8, 3);
            m.set(Check.PC, 0x320);
            Check.due("run(1) to " + at, m.run(1), at >= 100 && at <= 116 && at != 107 ? 1 : 0);
        }
    }

    private static void breakAddress() {
        BoardMachine m = new BoardMachine();
        for (int at : new int[] {-1, 65536, 65536 + 5, LEAST, MOST}) {
            Check.due("setBreak(" + at + ")", m.setBreak(at), false);
            Check.due("clearBreak(" + at + ")", m.clearBreak(at), false);
        }
        Check.due("break points", m.count(13), 0);
        Check.due("setBreak(0)", m.setBreak(0), true);
        Check.due("setBreak(65535)", m.setBreak(65535), true);
        Check.due("break points", m.count(13), 2);
        Check.due("setBreak(-1) then", m.setBreak(-1), false);
        Check.due("setBreak(65536) then", m.setBreak(65536), false);
        Check.due("clearBreak(-1) then", m.clearBreak(-1), false);
        Check.due("clearBreak(65536) then", m.clearBreak(65536), false);
        Check.due("break points", m.count(13), 2);
    }

    private static void clearing() {
        BoardMachine m = new BoardMachine();
        Check.due("clearBreak(0) without one", m.clearBreak(0), false);
        for (int i = 0; i < 16; i++) {
            m.setBreak(4369 * i);
        }
        // The last, the first, one between.
        int[] order = {15, 0, 7, 14, 1, 8, 13, 2, 9, 12, 3, 10, 11, 4, 6, 5};
        for (int i = 0; i < 16; i++) {
            int at = 4369 * order[i];
            Check.due("clearBreak(" + (at ^ 1) + "), none", m.clearBreak(at ^ 1), false);
            Check.due("clearBreak(" + at + ")", m.clearBreak(at), true);
            Check.due("clearBreak(" + at + ") again", m.clearBreak(at), false);
            Check.due("break points", m.count(13), 15 - i);
            for (int k = i + 1; k < 16; k++) {
                Check.due("another is one still", m.setBreak(4369 * order[k]), false);
            }
        }
        // One that is cleared ends no run.
        BoardMachine run = Check.at(0x320, 0xEA, 0xEA, 0xEA);
        run.setBreak(0x321);
        run.setBreak(0x322);
        run.clearBreak(0x321);
        Check.due("run(3)", run.run(3), 1);
        Check.due("PC", run.register(Check.PC), 0x322);
    }

    private static BoardMachine traced(int n) {
        BoardMachine m = new BoardMachine();
        for (int i = 0; i < 128; i += 8) {
            m.load(0x400 + i, 0xEAEAEAEAEAEAEAEAL, 8);
        }
        m.set(Check.PC, 0x400);
        m.run(n);
        return m;
    }

    private static void traceLatest() {
        for (int n : new int[] {1, 2, 31, 32, 33, 63, 64, 65, 100}) {
            BoardMachine m = traced(n);
            int size = Math.min(n, 32);
            for (int i = 0; i < size; i++) {
                Check.due("trace(" + i + ") of " + n, m.trace(i), 0x400 + n - size + i);
            }
        }
        // An interrupt and waiting are no instructions; WAI, STP and BRK are.
        BoardMachine m = Check.at(0x320, 0xCB);
        m.load(0xFFFA, 0x30030000, 4);
        m.load(0xFFFE, 0x4003, 2);
        m.load(0x340, 0xDB, 1);
        m.run(4);
        m.nmi();
        Check.due("run(100)", m.run(100), 2);
        m.step();
        int[] want = {0x320, 0x330, 0x340, BoardMachine.NONE};
        for (int i = 0; i < 4; i++) {
            Check.due("trace(" + i + ")", m.trace(i), want[i]);
        }
    }

    private static void traceNone() {
        for (int n : new int[] {0, 1, 31, 32, 33, 100}) {
            BoardMachine m = traced(n);
            int size = Math.min(n, 32);
            Check.due("trace(" + size + ") of " + n, m.trace(size), BoardMachine.NONE);
            for (int i : new int[] {-1, -32, 32, 33, 64, LEAST, MOST}) {
                Check.due("trace(" + i + ") of " + n, m.trace(i), BoardMachine.NONE);
            }
            if (n > 0) {
                Check.due("trace(" + (size - 1) + ") of " + n, m.trace(size - 1), 0x400 + n - 1);
            }
        }
    }

    private static void countStates() {
        BoardMachine m = Check.at(0x320, 0xCB);
        m.load(0xFFFA, 0x3003, 2);
        m.load(0x330, 0xDB, 1);
        int[][] want = {{0, 0, 0}, {1, 0, 0}, {1, 0, 1}, {0, 0, 0}, {0, 1, 0}, {0, 1, 1}, {0, 0, 0}};
        for (int i = 0; i < want.length; i++) {
            for (int k = 0; k < 3; k++) {
                Check.due("count(" + (10 + k) + "), time " + i, m.count(10 + k), want[i][k]);
            }
            if (i == 1 || i == 4) {
                m.nmi();
            } else if (i == 5) {
                m.reset();
            } else {
                m.step();
            }
        }
    }

    private static void countWithoutBit7() {
        BoardMachine m = new BoardMachine();
        m.set(Check.P, 4);
        Check.write(m, 0xA005, 0);
        Check.write(m, 0xA00E, 0xFF);
        Check.due("IFR read", m.look(0xA00D), 192);
        Check.due("count(8)", m.count(8), 64);
        Check.due("IER read", m.look(0xA00E), 255);
        Check.due("count(9)", m.count(9), 127);
    }

    private static void countInstructions() {
        // INX, WAI, two of waiting, an interrupt, STP, two when stopped.
        BoardMachine m = Check.at(0x320, 0xE8, 0xCB);
        m.load(0xFFFA, 0x3003, 2);
        m.load(0x330, 0xDB, 1);
        int[] want = {1, 2, 2, 2, 2, 3, 3, 3};
        for (int i = 0; i < want.length; i++) {
            if (i == 4) {
                m.nmi();
            }
            m.step();
            Check.due("count(1) behind step " + i, m.count(1), want[i]);
        }
    }

    private static void countOthers() {
        BoardMachine m = new BoardMachine();
        for (int what : new int[] {-1, 15, 16, LEAST, MOST}) {
            Check.due("count(" + what + ")", m.count(what), BoardMachine.NONE);
        }
        Check.due("count(0)", m.count(0), 0);
        Check.due("count(14)", m.count(14), 0);
        Check.due("BRK", m.step(), 7);
        Check.due("count(14) behind BRK", m.count(14), 0);
        m.nmi();
        m.step();
        Check.due("count(14) behind an NMI", m.count(14), 1);
        m.set(Check.P, 4);
        Check.write(m, 0xA012, 1);
        m.receive(1);
        Check.due("count(14) behind an IRQ that I holds off", m.count(14), 1);
        m.set(Check.P, 0);
        m.step();
        Check.due("count(14) behind an IRQ", m.count(14), 2);
    }
}
