/** The sentences on the stack, branches, jumps, interrupts and steps: each at its bounds. */
public final class FlowBoundsTest {
    public static void main(String[] args) {
        Check.sentence("PUSHING writes a byte to 256 + S, S one less", FlowBoundsTest::pushing);
        Check.sentence("PULLING: S one more, the byte there", FlowBoundsTest::pulling);
        Check.sentence("BRANCHES, two bytes, 2 cycles, 1 more if taken, 1 more if then the upper byte of PC is another "
                + "one than that of what follows: to what follows + b (as signed)", FlowBoundsTest::branches);
        Check.sentence("BPL 0x10 N 0, BMI 30 N 1, BVC 50, BVS 70 by V, BCC 90, BCS B0 by C, BNE D0, BEQ F0 by Z, "
                + "BRA 80 always", FlowBoundsTest::conditions);
        Check.sentence("if bit k of the byte at b is 0, 1: to what follows + the third byte",
                FlowBoundsTest::bitBranches);
        Check.sentence("7C to the word at w + X (6)", FlowBoundsTest::jumps);
        Check.sentence("JSR 0x20 (6): pushes the upper, then the lower byte of the address of its last byte, goes to w",
                FlowBoundsTest::jsr);
        Check.sentence("RTS 0x60 (6): pulls the lower, then the upper byte, goes behind that address",
                FlowBoundsTest::rts);
        Check.sentence("RTI 0x40 (6): pulls P, then PC likewise (not behind)", FlowBoundsTest::rti);
        Check.sentence("BRK 0x00 (7): an INTERRUPT with PC two further, of vector 0xFFFE, P pushed with bit 16",
                FlowBoundsTest::brk);
        Check.sentence("WAI 0xCB (3): WAITS from then on", FlowBoundsTest::wai);
        Check.sentence("STP 0xDB (3): STOPS until a reset", FlowBoundsTest::stp);
        Check.sentence("AN INTERRUPT pushes PC's upper, lower byte, and P (bit 32 set; bit 16 by BRK alone)",
                FlowBoundsTest::interruptPushes);
        Check.sentence("I becomes 1, D 0, PC the word at its vector", FlowBoundsTest::interruptGoes);
        Check.sentence("A STEP: stopped: nothing, 0 cycles", FlowBoundsTest::stopped);
        Check.sentence("Else, if an edge of NMI is latched: it is no more, it waits no more, an interrupt of vector "
                + "0xFFFA: 7 cycles", FlowBoundsTest::nmiStep);
        Check.sentence("Else, if an IRQ is there (below): it waits no more; if I is 0: an interrupt of vector 0xFFFE: "
                + "7 cycles", FlowBoundsTest::irqStep);
        Check.sentence("Else, or if I is 1: waiting: 1 cycle; else an instruction", FlowBoundsTest::waitingStep);
        Check.sentence("Then the timers go on by the cycles, that are counted, too", FlowBoundsTest::cyclesCounted);
        Check.end();
    }

    private static void pushing() {
        int[][] codes = {{0x48, Check.A}, {0xDA, Check.X}, {0x5A, Check.Y}, {0x08, Check.P}};
        for (int[] code : codes) {
            for (int s : new int[] {255, 254, 1, 0}) {
                BoardMachine m = Check.at(0x300, code[0]);
                m.set(code[1], 0xB5);
                m.set(Check.S, s);
                Check.due("cycles of " + code[0], m.step(), 3);
                Check.due("the byte at 256 + " + s, m.look(256 + s), 0xB5);
                Check.due("S behind " + s, m.register(Check.S), s == 0 ? 255 : s - 1);
                Check.due("the byte at 255", m.look(255), 0);
                Check.due("the byte at 512", m.look(512), 0);
            }
        }
    }

    private static void pulling() {
        int[][] codes = {{0x68, Check.A}, {0xFA, Check.X}, {0x7A, Check.Y}, {0x28, Check.P}};
        for (int[] code : codes) {
            for (int s : new int[] {255, 254, 1, 0}) {
                for (int v : new int[] {0xB5, 0x30, 0x7F}) {
                    int from = s == 255 ? 0 : s + 1;
                    BoardMachine m = Check.at(0x300, code[0]);
                    m.load(256 + from, v, 1);
                    m.set(Check.S, s);
                    Check.due("cycles of " + code[0], m.step(), 4);
                    Check.due("pulled behind " + s, m.register(code[1]), code[1] == Check.P ? v | 48 : v);
                    Check.due("S behind " + s, m.register(Check.S), from);
                }
            }
        }
        for (int[] code : codes) {
            BoardMachine zero = Check.at(0x300, code[0]);
            zero.set(Check.P, 128);
            zero.step();
            Check.due("P by pulling 0 by " + code[0], zero.register(Check.P), code[1] == Check.P ? 48 : 50);
        }
    }

    private static void branch(int start, int b, int to, int cycles) {
        BoardMachine m = Check.at(start, 0x80, b);
        Check.due("BRA by " + b + " at " + start, m.step(), cycles);
        Check.due("BRA by " + b + " at " + start + ": PC", m.register(Check.PC), to);
        BoardMachine not = Check.at(start, 0xB0, b);
        Check.due("BCS not taken at " + start, not.step(), 2);
        Check.due("BCS not taken at " + start + ": PC", not.register(Check.PC), start + 2 & 0xFFFF);
    }

    private static void branches() {
        branch(0x1200, 0x7F, 0x1281, 3);
        branch(0x1200, 0x80, 0x1182, 4);
        branch(0x1200, 0x00, 0x1202, 3);
        branch(0x1200, 0xFF, 0x1201, 3);
        branch(0x1200, 0xFE, 0x1200, 3);
        branch(0x1200, 0xFD, 0x11FF, 4);
        branch(0x12F0, 0x0D, 0x12FF, 3);
        branch(0x12F0, 0x0E, 0x1300, 4);
        // What follows lies behind the end of an upper byte, the code ahead of it.
        branch(0x12FE, 0x00, 0x1300, 3);
        branch(0x12FE, 0xFF, 0x12FF, 4);
        branch(0x12FD, 0x00, 0x12FF, 3);
        branch(0x12FD, 0x01, 0x1300, 4);
        branch(0x12FF, 0x00, 0x1301, 3);
        branch(0x12FF, 0xFE, 0x12FF, 4);
        // Round, both ways.
        branch(0xFFFD, 0x00, 0xFFFF, 3);
        branch(0xFFFD, 0x01, 0x0000, 4);
        branch(0xFFFE, 0x00, 0x0000, 3);
        branch(0xFFFE, 0xFF, 0xFFFF, 4);
        branch(0x0000, 0xFE, 0x0000, 3);
        branch(0x0000, 0xFD, 0xFFFF, 4);
        branch(0x0000, 0x80, 0xFF82, 4);
    }

    private static void conditions() {
        int[] codes = {0x10, 0x30, 0x50, 0x70, 0x90, 0xB0, 0xD0, 0xF0};
        int[] flags = {128, 128, 64, 64, 1, 1, 2, 2};
        for (int i = 0; i < codes.length; i++) {
            for (int p : new int[] {0, 255, flags[i], 255 - flags[i]}) {
                boolean taken = ((p & flags[i]) != 0) == (i % 2 == 1);
                BoardMachine m = Check.at(0x1200, codes[i], 0x10);
                m.set(Check.P, p);
                Check.due("cycles of " + codes[i] + " with " + p, m.step(), taken ? 3 : 2);
                Check.due("PC behind " + codes[i] + " with " + p, m.register(Check.PC), taken ? 0x1212 : 0x1202);
                Check.due("P behind it", m.register(Check.P), p | 48);
                BoardMachine always = Check.at(0x1200, 0x80, 0x10);
                always.set(Check.P, p);
                always.step();
                Check.due("PC behind BRA with " + p, always.register(Check.PC), 0x1212);
            }
        }
    }

    private static void bitBranch(int code, int v, int start, int b, int third, int to, int cycles) {
        BoardMachine m = Check.at(start, code, b, third);
        m.load(b, v, 1);
        String call = Integer.toHexString(code) + " of " + v + " at " + start + " by " + third;
        Check.due(call, m.step(), cycles);
        Check.due(call + ": PC", m.register(Check.PC), to);
        Check.due(call + ": the byte", m.look(b), v);
    }

    private static void bitBranches() {
        for (int k = 0; k < 8; k++) {
            int one = 1 << k;
            bitBranch(0x0F + 16 * k, one, 0x1200, 0x40, 0x10, 0x1203, 5);
            bitBranch(0x0F + 16 * k, 255 - one, 0x1200, 0x40, 0x10, 0x1213, 6);
            bitBranch(0x8F + 16 * k, one, 0x1200, 0x40, 0x10, 0x1213, 6);
            bitBranch(0x8F + 16 * k, 255 - one, 0x1200, 0x40, 0x10, 0x1203, 5);
        }
        bitBranch(0x8F, 1, 0x1200, 0xFF, 0x7F, 0x1282, 6);
        bitBranch(0x8F, 1, 0x1200, 0x00, 0x80, 0x1183, 7);
        bitBranch(0x8F, 1, 0x12F0, 0x40, 0x0C, 0x12FF, 6);
        bitBranch(0x8F, 1, 0x12F0, 0x40, 0x0D, 0x1300, 7);
        bitBranch(0x8F, 1, 0x12FD, 0x40, 0x00, 0x1300, 6);
        bitBranch(0x8F, 1, 0x12FD, 0x40, 0xFF, 0x12FF, 7);
        bitBranch(0x8F, 1, 0xFFF0, 0x40, 0x0C, 0xFFFF, 6);
        bitBranch(0x8F, 1, 0xFFF0, 0x40, 0x0D, 0x0000, 7);
        bitBranch(0x0F, 0, 0x0010, 0x40, 0x80, 0xFF93, 7);
        bitBranch(0x0F, 0, 0x1200, 0xFF, 0x10, 0x1213, 6);
        bitBranch(0x0F, 1, 0x1200, 0xFF, 0x10, 0x1203, 5);
    }

    private static void jump(int code, int w, int x, int from, int cycles) {
        BoardMachine m = Check.at(0x200, code, w & 255, w >> 8);
        m.set(Check.X, x);
        m.load(from, 0x78, 1);
        m.load(from + 1 & 0xFFFF, 0x56, 1);
        Check.due("cycles of " + code + " to the word at " + from, m.step(), cycles);
        Check.due("PC behind " + code + " to the word at " + from, m.register(Check.PC), 0x5678);
    }

    private static void jumps() {
        BoardMachine m = Check.at(0x200, 0x4C, 0xFF, 0xFF);
        m.set(Check.X, 0x77);
        m.set(Check.Y, 0x77);
        Check.due("JMP 65535", m.step(), 3);
        Check.due("PC", m.register(Check.PC), 65535);
        jump(0x6C, 0x30FE, 0x77, 0x30FE, 6);
        jump(0x6C, 0x30FF, 0x77, 0x30FF, 6);
        jump(0x6C, 0xFFFF, 0x77, 0xFFFF, 6);
        jump(0x7C, 0x30F0, 0x0E, 0x30FE, 6);
        jump(0x7C, 0x30F0, 0x0F, 0x30FF, 6);
        jump(0x7C, 0x30F0, 0x10, 0x3100, 6);
        jump(0x7C, 0xFFF0, 0x0E, 0xFFFE, 6);
        jump(0x7C, 0xFFF0, 0x0F, 0xFFFF, 6);
        jump(0x7C, 0xFFF0, 0x10, 0x0000, 6);
        jump(0x7C, 0xFFFF, 0xFF, 0x00FE, 6);
    }

    private static void jsr() {
        for (int start : new int[] {0x0300, 0x12FC, 0x12FD, 0x12FE, 0xFFFC, 0xFFFD, 0xFFFE, 0xFFFF}) {
            for (int s : new int[] {255, 1, 0}) {
                BoardMachine m = Check.at(start, 0x20, 0x34, 0x56);
                m.set(Check.X, 0x77);
                m.set(Check.Y, 0x77);
                m.set(Check.S, s);
                Check.due("JSR at " + start, m.step(), 6);
                Check.due("PC", m.register(Check.PC), 0x5634);
                int last = start + 2 & 0xFFFF;
                Check.due("the upper byte, at S " + s, m.look(256 + s), last >> 8);
                Check.due("the lower byte", m.look(256 + (s - 1 & 255)), last & 255);
                Check.due("S", m.register(Check.S), s - 2 & 255);
            }
        }
    }

    private static void rts() {
        for (int to : new int[] {0x0000, 0x12FE, 0x12FF, 0xFFFE, 0xFFFF}) {
            for (int s : new int[] {0xFD, 0xFE, 0xFF}) {
                BoardMachine m = Check.at(0x300, 0x60);
                m.set(Check.S, s);
                m.load(256 + (s + 1 & 255), to & 255, 1);
                m.load(256 + (s + 2 & 255), to >> 8, 1);
                Check.due("RTS", m.step(), 6);
                Check.due("PC behind RTS to " + to, m.register(Check.PC), to + 1 & 0xFFFF);
                Check.due("S", m.register(Check.S), s + 2 & 255);
            }
        }
    }

    private static void rti() {
        for (int to : new int[] {0x0000, 0x12FF, 0xFFFF}) {
            for (int s : new int[] {0xFC, 0xFD, 0xFE, 0xFF}) {
                BoardMachine m = Check.at(0x300, 0x40);
                m.set(Check.S, s);
                m.load(256 + (s + 1 & 255), 0xC9, 1);
                m.load(256 + (s + 2 & 255), to & 255, 1);
                m.load(256 + (s + 3 & 255), to >> 8, 1);
                Check.due("RTI", m.step(), 6);
                Check.due("PC behind RTI to " + to, m.register(Check.PC), to);
                Check.due("P", m.register(Check.P), 0xC9 | 48);
                Check.due("S", m.register(Check.S), s + 3 & 255);
            }
        }
    }

    private static void brk() {
        for (int start : new int[] {0x0300, 0x12FD, 0x12FE, 0x12FF, 0xFFFD, 0xFFFE, 0xFFFF}) {
            BoardMachine m = new BoardMachine();
            m.set(Check.PC, start);
            m.set(Check.P, 0);
            m.set(Check.S, 255);
            Check.due("BRK at " + start, m.step(), 7);
            Check.due("pushed, upper", m.look(0x1FF), (start + 2 & 0xFFFF) >> 8);
            Check.due("pushed, lower", m.look(0x1FE), start + 2 & 255);
            Check.due("pushed P", m.look(0x1FD), 48);
            Check.due("interrupts", m.count(14), 0);
            Check.due("steps", m.count(1), 1);
        }
        BoardMachine vector = new BoardMachine();
        vector.load(0xFFFA, 0x111122223412L, 6);
        vector.step();
        Check.due("PC behind BRK", vector.register(Check.PC), 0x1234);
    }

    private static void wai() {
        BoardMachine m = Check.at(0x300, 0xCB, 0xE8);
        Check.due("it waits ahead of WAI", m.count(10), 0);
        Check.due("WAI", m.step(), 3);
        Check.due("it waits", m.count(10), 1);
        Check.due("PC is behind WAI", m.register(Check.PC), 0x301);
        Check.due("run(1000)", m.run(1000), 0);
        Check.due("it waits still", m.count(10), 1);
        Check.due("cycles", m.count(0), 1003);
        Check.due("steps that carried out an instruction", m.count(1), 1);
        Check.due("X", m.register(Check.X), 0);
        // Going on with PC elsewhere does not end it, nor do bytes that no one asks for.
        m.set(Check.PC, 0x300);
        m.receive(1);
        Check.due("waiting", m.step(), 1);
        Check.due("PC", m.register(Check.PC), 0x300);
    }

    private static void stp() {
        BoardMachine m = Check.at(0xC000, 0xDB, 0xE8);
        m.load(0xFFFC, 0x01C0, 2);
        Check.write(m, 0xA012, 1);
        m.set(Check.PC, 0xC000);
        Check.due("it is stopped ahead of STP", m.count(11), 0);
        Check.due("STP", m.step(), 3);
        Check.due("it is stopped", m.count(11), 1);
        Check.due("PC is behind STP", m.register(Check.PC), 0xC001);
        m.set(Check.P, 0);
        m.receive(9);
        m.nmi();
        Check.due("step()", m.step(), 0);
        Check.due("it is stopped still", m.count(11), 1);
        m.reset();
        Check.due("it is stopped behind a reset", m.count(11), 0);
        Check.due("INX", m.step(), 2);
        Check.due("X", m.register(Check.X), 1);
    }

    /** A machine with vectors, about to be interrupted by NMI, by IRQ or by BRK. */
    private static BoardMachine interrupted(int kind, int pc, int s, int p) {
        BoardMachine m = new BoardMachine();
        m.load(0xFFFA, 0xFFD000000000L, 6);
        m.load(0xFFFE, 0x01E0, 2);
        if (kind == 0) {
            m.nmi();
        }
        if (kind == 1) {
            m.set(Check.P, 4);
            Check.write(m, 0xA012, 1);
            m.receive(1);
        }
        m.set(Check.PC, pc);
        m.set(Check.S, s);
        m.set(Check.P, p);
        return m;
    }

    private static void interruptPushes() {
        for (int kind = 0; kind < 3; kind++) {
            for (int s : new int[] {255, 2, 1, 0}) {
                for (int p : new int[] {0, 16, 32, 48, 255 - 4}) {
                    BoardMachine m = interrupted(kind, 0x1234, s, p);
                    Check.due("kind " + kind + " with S " + s, m.step(), 7);
                    Check.due("the upper byte of PC", m.look(256 + s), 0x12);
                    Check.due("the lower byte of PC", m.look(256 + (s - 1 & 255)), kind == 2 ? 0x36 : 0x34);
                    Check.due("P", m.look(256 + (s - 2 & 255)), kind == 2 ? p | 48 : p & ~16 | 32);
                    Check.due("S", m.register(Check.S), s - 3 & 255);
                    Check.due("the byte at 255", m.look(255), 0);
                    Check.due("interrupts", m.count(14), kind == 2 ? 0 : 1);
                }
            }
        }
    }

    private static void interruptGoes() {
        for (int kind = 0; kind < 3; kind++) {
            for (int p : new int[] {0, 8, 255 - 4, 255 - 12}) {
                BoardMachine m = interrupted(kind, 0x1234, 255, p);
                m.step();
                Check.due("P behind kind " + kind, m.register(Check.P), p & ~8 | 4 | 48);
                Check.due("PC behind kind " + kind, m.register(Check.PC), kind == 0 ? 0xD0FF : 0xE001);
            }
        }
    }

    private static void stopped() {
        BoardMachine m = Check.at(0x300, 0xDB);
        m.step();
        m.set(Check.P, 0);
        m.nmi();
        m.receive(3);
        String state = Check.state(m);
        for (int i = 0; i < 3; i++) {
            Check.due("step() when stopped", m.step(), 0);
        }
        Check.same("behind steps when stopped", Check.state(m), state);
        Check.due("the edge stays latched", m.count(12), 1);
    }

    private static void nmiStep() {
        // I 1 or 0, an IRQ or none, waiting or not: it is taken, once.
        for (int kind = 0; kind < 8; kind++) {
            BoardMachine m = Check.at(0x320, 0xCB);
            m.load(0xFFFA, 0x00D000000000L, 6);
            m.load(0xFFFE, 0x00E0, 2);
            m.load(0xD000, 0xEA, 1);
            m.set(Check.P, 4);
            if ((kind & 1) != 0) {
                Check.write(m, 0xA012, 1);
            }
            if ((kind & 2) != 0) {
                m.set(Check.PC, 0x320);
                m.step();
            }
            m.receive(1);
            m.set(Check.P, (kind & 4) != 0 ? 4 : 0);
            m.nmi();
            Check.due("waits, kind " + kind, m.count(10), (kind & 2) >> 1);
            Check.due("step(), kind " + kind, m.step(), 7);
            Check.due("PC, kind " + kind, m.register(Check.PC), 0xD000);
            Check.due("latched no more", m.count(12), 0);
            Check.due("waits no more", m.count(10), 0);
            Check.due("interrupts", m.count(14), 1);
            Check.due("then an instruction", m.step(), 2);
            Check.due("PC", m.register(Check.PC), 0xD001);
        }
    }

    private static BoardMachine asking(int p, boolean waiting) {
        BoardMachine m = Check.at(0x320, 0xCB, 0xE8);
        m.load(0xFFFE, 0x00E0, 2);
        m.set(Check.P, 4);
        Check.write(m, 0xA012, 1);
        m.set(Check.PC, waiting ? 0x320 : 0x321);
        if (waiting) {
            m.step();
        }
        m.receive(1);
        m.set(Check.P, p);
        return m;
    }

    private static void irqStep() {
        for (int kind = 0; kind < 4; kind++) {
            boolean waiting = (kind & 1) != 0;
            boolean held = (kind & 2) != 0;
            BoardMachine m = asking(held ? 4 : 0, waiting);
            Check.due("waits, kind " + kind, m.count(10), waiting ? 1 : 0);
            Check.due("step(), kind " + kind, m.step(), held ? 2 : 7);
            Check.due("PC, kind " + kind, m.register(Check.PC), held ? 0x322 : 0xE000);
            Check.due("X, kind " + kind, m.register(Check.X), held ? 1 : 0);
            Check.due("waits no more", m.count(10), 0);
            Check.due("interrupts", m.count(14), held ? 0 : 1);
        }
        // It is looked at ahead of each instruction: right behind CLI, and not behind SEI.
        BoardMachine cli = asking(4, false);
        cli.load(0x321, 0x5878, 2);
        cli.step();
        Check.due("right behind CLI", cli.step(), 7);
        Check.due("PC", cli.register(Check.PC), 0xE000);
    }

    private static void waitingStep() {
        BoardMachine m = Check.at(0x320, 0xCB, 0xE8);
        m.step();
        for (int p : new int[] {0, 4}) {
            m.set(Check.P, p);
            Check.due("waiting with P " + p, m.step(), 1);
            Check.due("PC", m.register(Check.PC), 0x321);
            Check.due("it waits still", m.count(10), 1);
        }
        // A timer's IRQ comes while it waits: at the step behind that in which it came.
        BoardMachine t = Check.at(0x320, 0xCB, 0xE8);
        t.load(0xFFFE, 0x00E0, 2);
        Check.write(t, 0xA00E, 0xC0);
        Check.write(t, 0xA004, 9);
        Check.write(t, 0xA005, 0);
        t.set(Check.PC, 0x320);
        t.set(Check.P, 0);
        t.step();
        Check.due("counter 1", t.count(5), 2);
        Check.due("waiting", t.step(), 1);
        Check.due("waiting", t.step(), 1);
        Check.due("counter 1", t.count(5), 0);
        Check.due("waiting, and the counter goes round", t.step(), 1);
        Check.due("IFR", t.count(8), 64);
        Check.due("the interrupt", t.step(), 7);
        Check.due("PC", t.register(Check.PC), 0xE000);
    }

    private static void cyclesCounted() {
        BoardMachine m = Check.at(0x320, 0x03, 0xEA, 0x5C, 0x00, 0x00, 0xCB);
        m.load(0xFFFA, 0x3003, 2);
        m.load(0x330, 0xDB, 1);
        int[] want = {1, 2, 8, 3, 1, 7, 3, 0, 0};
        int sum = 0;
        for (int i = 0; i < want.length; i++) {
            if (i == 5) {
                m.nmi();
            }
            Check.due("step " + i, m.step(), want[i]);
            sum += want[i];
            Check.due("cycles behind step " + i, m.count(0), sum);
            Check.due("counter 1 behind step " + i, m.count(5), 65535 - sum);
            Check.due("counter 2 behind step " + i, m.count(6), 65535 - sum);
        }
    }
}
