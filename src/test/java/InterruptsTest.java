/** Promises 4 and 6: what a step does when it is interrupted, waits or is stopped; nmi. */
public final class InterruptsTest {
    public static void main(String[] args) {
        nmi();
        nmiBeforeIrq();
        irq();
        waiting();
        stopped();
        brk();
        rti();
        Check.end();
    }

    private static BoardMachine machine(int... program) {
        BoardMachine m = Check.with(program);
        m.load(0xFFFA, 0x00D0, 2);
        m.load(0xFFFE, 0x00E0, 2);
        return m;
    }

    private static void nmi() {
        BoardMachine m = machine(0xEA, 0xEA);
        m.set(Check.P, 0xCF);
        m.set(Check.PC, 0xC1FE);
        m.nmi();
        m.nmi();
        Check.due("latched", m.count(12), 1);
        Check.due("PC behind nmi()", m.register(Check.PC), 0xC1FE);
        Check.due("step()", m.step(), 7);
        Check.due("PC", m.register(Check.PC), 0xD000);
        Check.due("S", m.register(Check.S), 0xFA);
        Check.due("pushed first", m.look(0x1FD), 0xC1);
        Check.due("pushed second", m.look(0x1FC), 0xFE);
        Check.due("pushed P, without 16", m.look(0x1FB), 0xEF);
        Check.due("P: I 1, D 0", m.register(Check.P), 0xF7);
        Check.due("latched once for two edges", m.count(12), 0);
        Check.due("timers went on", m.count(5), 65535 - 7);
        Check.due("the next step is an instruction", m.step(), 7);
        Check.due("BRK's vector", m.register(Check.PC), 0xE000);
        Check.due("interrupts", m.count(14), 1);
    }

    private static void nmiBeforeIrq() {
        BoardMachine m = machine(0xA9, 0x01, 0x8D, 0x12, 0xA0, 0x58);
        m.load(0xD000, 0x58, 1);
        m.receive(1);
        Check.steps(m, 3);
        m.nmi();
        m.step();
        Check.due("NMI comes first", m.register(Check.PC), 0xD000);
        Check.due("CLI inside it", m.step(), 2);
        Check.due("then the IRQ", m.step(), 7);
        Check.due("PC", m.register(Check.PC), 0xE000);
        Check.due("it pushed P without 16", m.look(0x100 + m.register(Check.S) + 1), 0x20);
        Check.due("interrupts", m.count(14), 2);
    }

    private static void irq() {
        BoardMachine m = machine(0xA9, 0x01, 0x8D, 0x12, 0xA0, 0xEA, 0x58, 0xEA);
        m.receive(1);
        Check.due("with I 1 none is taken", Check.steps(m, 3), 2);
        Check.due("CLI", m.step(), 2);
        m.set(Check.P, 0x8B);
        Check.due("the IRQ", m.step(), 7);
        Check.due("PC", m.register(Check.PC), 0xE000);
        Check.due("P", m.register(Check.P), 0x80 + 48 + 4 + 3);
        Check.due("pushed P", m.look(0x1FB), 0x80 + 32 + 8 + 3);
        Check.due("pushed PC", m.look(0x1FC), 0x07);
        Check.due("it asks still, but I is 1: an instruction", m.step(), 7);
        Check.due("interrupts", m.count(14), 1);
    }

    private static void waiting() {
        BoardMachine m = machine(0xA9, 0x01, 0x8D, 0x12, 0xA0, 0xCB, 0xE8, 0xCB);
        Check.due("WAI", Check.steps(m, 3), 3);
        Check.due("PC is behind WAI", m.register(Check.PC), 0xC006);
        long counter = m.count(5);
        Check.due("waiting", m.step(), 1);
        Check.due("waiting", m.step(), 1);
        Check.due("timers go on by 1", m.count(5), counter - 2);
        m.receive(5);
        Check.due("an IRQ with I 1 ends it: INX", m.step(), 2);
        Check.due("X", m.register(Check.X), 1);
        Check.due("waits no more", m.count(10), 0);
        Check.due("no interrupt", m.count(14), 0);
        m.step();
        m.set(Check.P, 0);
        Check.due("an IRQ with I 0 ends it", m.step(), 7);
        Check.due("waits no more", m.count(10), 0);
        Check.due("pushed PC is behind WAI", m.look(0x1FC), 0x08);
        BoardMachine n = machine(0xCB);
        Check.steps(n, 2);
        n.nmi();
        Check.due("NMI ends it", n.step(), 7);
        Check.due("waits no more", n.count(10), 0);
    }

    private static void stopped() {
        BoardMachine m = machine(0xDB, 0xE8);
        Check.due("STP", m.step(), 3);
        Check.due("PC is behind STP", m.register(Check.PC), 0xC001);
        long counter = m.count(5);
        m.nmi();
        Check.due("stopped", m.step(), 0);
        Check.due("counter 1 stands", m.count(5), counter);
        Check.due("an edge stays latched", m.count(12), 1);
        Check.due("no interrupt", m.count(14), 0);
    }

    private static void brk() {
        BoardMachine m = machine(0x00, 0xFF, 0xEA);
        m.set(Check.P, 0x09);
        Check.due("BRK", m.step(), 7);
        Check.due("PC", m.register(Check.PC), 0xE000);
        Check.due("pushed PC, upper", m.look(0x1FD), 0xC0);
        Check.due("pushed PC, two further", m.look(0x1FC), 0x02);
        Check.due("pushed P, with 16", m.look(0x1FB), 0x39);
        Check.due("P", m.register(Check.P), 0x35);
        // BRK reads its code alone: the byte behind this one is the port's.
        BoardMachine n = new BoardMachine();
        n.set(Check.PC, 0xA00F);
        n.receive(65);
        n.step();
        Check.due("the port's byte is not read", n.count(3), 1);
        BoardMachine round = new BoardMachine();
        round.set(Check.PC, 0xFFFF);
        round.step();
        Check.due("pushed PC goes round", round.look(0x1FF), 1);
    }

    private static void rti() {
        BoardMachine m = machine(0x40);
        m.load(0x1FE, 0x00FF, 2);
        m.set(Check.S, 0xFC);
        m.load(0x1FD, 0xCF, 1);
        m.load(0x100, 0x12, 1);
        m.load(0x1FE, 0x34FF, 2);
        Check.due("RTI", m.step(), 6);
        Check.due("P with 16 and 32", m.register(Check.P), 0xFF);
        Check.due("PC", m.register(Check.PC), 0xFF34);
        Check.due("S", m.register(Check.S), 0xFF);
    }
}
