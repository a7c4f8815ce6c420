/** Promises 7 and 8: receive and sent, with the port of the terms. */
public final class PortTest {
    public static void main(String[] args) {
        receive();
        sent();
        registers();
        asks();
        Check.end();
    }

    private static void receive() {
        BoardMachine m = Check.with(0xAD, 0x10, 0xA0, 0x80, 0xFB);
        for (int b : new int[] {-1, 256, 300, Integer.MIN_VALUE, Integer.MAX_VALUE}) {
            Check.due("receive(" + b + ")", m.receive(b), BoardMachine.NONE);
        }
        Check.due("bytes that wait behind wrong ones", m.count(3), 0);
        Check.due("receive(0)", m.receive(0), 1);
        Check.due("receive(255)", m.receive(255), 2);
        for (int i = 3; i <= 64; i++) {
            Check.due("receive to " + i, m.receive(i), i);
        }
        Check.due("receive when 64 wait", m.receive(1), BoardMachine.NONE);
        Check.due("bytes that wait", m.count(3), 64);
        int[] first = {0, 255, 3, 4};
        for (int b : first) {
            m.step();
            Check.due("the oldest byte", m.register(Check.A), b);
            m.step();
        }
        Check.due("bytes that wait", m.count(3), 60);
        Check.due("receive behind the row's end", m.receive(77), 61);
        for (int i = 5; i <= 64; i++) {
            m.step();
            Check.due("then", m.register(Check.A), i);
            m.step();
        }
        m.step();
        Check.due("at last", m.register(Check.A), 77);
        Check.steps(m, 2);
        Check.due("without one", m.register(Check.A), 0);
        Check.due("bytes that wait without one", m.count(3), 0);
    }

    private static void sent() {
        BoardMachine m = Check.with(0x8E, 0x10, 0xA0, 0xE8, 0x80, 0xFA);
        Check.due("sent(0) at first", m.sent(0), BoardMachine.NONE);
        m.run(3 * 256);
        Check.due("bytes sent in all", m.count(2), 256);
        Check.due("sent(0) of 256", m.sent(0), 0);
        Check.due("sent(255) of 256", m.sent(255), 255);
        Check.due("sent(256) of 256", m.sent(256), BoardMachine.NONE);
        m.run(3 * 44);
        Check.due("sent(43) of 300", m.sent(43), BoardMachine.NONE);
        Check.due("sent(44) of 300", m.sent(44), 44);
        Check.due("sent(299) of 300", m.sent(299), 43);
        Check.due("sent(300) of 300", m.sent(300), BoardMachine.NONE);
        Check.due("sent(-1)", m.sent(-1), BoardMachine.NONE);
        Check.due("sent(least)", m.sent(Integer.MIN_VALUE), BoardMachine.NONE);
        Check.due("sent(most)", m.sent(Integer.MAX_VALUE), BoardMachine.NONE);
        m.reset();
        Check.due("sent(299) behind a reset", m.sent(299), 43);
        Check.due("count(2) behind it", m.count(2), 300);
    }

    private static void registers() {
        // LDA #0xFD; STA 0xA012; LDX 0xA011; STA 0xA011; LDY 0xA012
        BoardMachine m = Check.with(0xA9, 0xFD, 0x8D, 0x12, 0xA0, 0xAE, 0x11, 0xA0, 0x8D, 0x11, 0xA0, 0xAC, 0x12, 0xA0);
        m.receive(9);
        Check.steps(m, 2);
        Check.due("the command", m.look(0xA012), 0xFD);
        m.step();
        Check.due("the state", m.register(Check.X), 128 + 16 + 8);
        Check.due("reading the state takes nothing", m.count(3), 1);
        m.step();
        Check.due("writing the state makes the command 0", m.look(0xA012), 0);
        Check.due("and it asks no more", m.look(0xA011), 24);
        m.set(Check.Y, 5);
        m.step();
        Check.due("the command read", m.register(Check.Y), 0);
    }

    private static void asks() {
        for (int command = 0; command < 256; command++) {
            BoardMachine m = Check.with(0xA9, command, 0x8D, 0x12, 0xA0, 0x58, 0xEA);
            Check.steps(m, 2);
            Check.due("the state without a byte, command " + command, m.look(0xA011), 16);
            m.receive(1);
            boolean asks = (command & 3) == 1;
            Check.due("the state, command " + command, m.look(0xA011), asks ? 152 : 24);
            Check.steps(m, 2);
            Check.due("interrupts, command " + command, m.count(14), asks ? 1 : 0);
        }
        // An interrupt that reads the byte is taken once.
        BoardMachine m = Check.with(0xA9, 0x01, 0x8D, 0x12, 0xA0, 0x58, 0xEA, 0x80, 0xFD);
        Check.load(m, 0xD000, 0xAD, 0x10, 0xA0, 0x40);
        m.load(0xFFFE, 0x00D0, 2);
        m.receive(42);
        m.run(20);
        Check.due("A", m.register(Check.A), 42);
        Check.due("interrupts", m.count(14), 1);
    }
}
