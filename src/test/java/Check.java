import java.util.function.LongSupplier;

/** What the tests share: comparing answers, and loading programs. */
final class Check {
    static final int A = 0;
    static final int X = 1;
    static final int Y = 2;
    static final int S = 3;
    static final int P = 4;
    static final int PC = 5;

    static final int START = 0xC000;

    private static int made = 0;
    private static int wrong = 0;

    private Check() {
    }

    static void due(String call, long got, long want) {
        made++;
        if (got != want) {
            wrong++;
            System.out.println(call + " answered " + got + ", due is " + want);
        }
    }

    static void due(String call, boolean got, boolean want) {
        due(call, got ? 1 : 0, want ? 1 : 0);
    }

    static void refused(String call, Runnable made) {
        String got = "nothing";
        try {
            made.run();
        } catch (RuntimeException e) {
            got = e.getClass().getName();
        }
        due(call + " threw " + got + "; IllegalArgumentException",
                got.equals("java.lang.IllegalArgumentException"), true);
    }

    static void answers(String call, LongSupplier made, long want) {
        try {
            due(call, made.getAsLong(), want);
        } catch (RuntimeException e) {
            due(call + " threw " + e, 1, 0);
        }
    }

    /** The test of one sentence of the document: it must look at an answer, and find none that is not as due. */
    static void sentence(String words, Runnable test) {
        int madeAhead = made;
        int wrongAhead = wrong;
        try {
            test.run();
        } catch (RuntimeException e) {
            wrong++;
            System.out.println("it threw " + e);
        }
        if (made == madeAhead) {
            wrong++;
            System.out.println("it looked at no answer");
        }
        if (wrong != wrongAhead) {
            System.out.println("BROKEN: " + words);
        }
    }

    static void end() {
        System.out.println(made + " answers looked at, " + wrong + " not as due");
        if (wrong != 0 || made == 0) {
            System.exit(1);
        }
    }

    static void load(BoardMachine machine, int address, int... bytes) {
        for (int i = 0; i < bytes.length; i++) {
            machine.load(address + i, bytes[i], 1);
        }
    }

    /** A machine after a reset, about to carry out the program at START. */
    static BoardMachine with(int... program) {
        BoardMachine machine = new BoardMachine();
        load(machine, START, program);
        load(machine, 0xFFFC, START & 255, START >> 8);
        machine.reset();
        return machine;
    }

    /** A new machine about to carry out the program at an address; behind 65535 it goes on at 0. */
    static BoardMachine at(int address, int... program) {
        BoardMachine machine = new BoardMachine();
        for (int i = 0; i < program.length; i++) {
            machine.load(address + i & 0xFFFF, program[i], 1);
        }
        machine.set(PC, address);
        return machine;
    }

    /** The processor writes: STA at 0x300, of 4 cycles. */
    static void write(BoardMachine machine, int address, int value) {
        machine.load(0x300, 0x8D0000L | (address & 255) << 8 | address >> 8, 3);
        machine.set(PC, 0x300);
        machine.set(A, value);
        machine.step();
    }

    /** The processor reads: LDA at 0x308, of 4 cycles. */
    static int read(BoardMachine machine, int address) {
        machine.load(0x308, 0xAD0000L | (address & 255) << 8 | address >> 8, 3);
        machine.set(PC, 0x308);
        machine.step();
        return machine.register(A);
    }

    /** n cycles, by n steps of a code that does nothing in one cycle. */
    static void cycles(BoardMachine machine, int n) {
        machine.load(0x310, 0x0303030303030303L, 8);
        for (int done = 0; done < n; done += 8) {
            machine.set(PC, 0x310);
            machine.run(Math.min(8, n - done));
        }
    }

    /** All that can be asked without changing anything, but for memory: some 70 calls. */
    static String state(BoardMachine machine) {
        StringBuilder all = new StringBuilder();
        for (int i = 0; i < 6; i++) {
            all.append(machine.register(i)).append(' ');
        }
        for (int i = 0; i < 15; i++) {
            all.append(machine.count(i)).append(' ');
        }
        for (int i = 0; i < 3; i++) {
            all.append(machine.trace(i)).append(' ').append(machine.sent(i)).append(' ');
        }
        for (int i = 0xA000; i < 0xA022; i++) {
            all.append(machine.look(i)).append(' ');
        }
        return all.toString();
    }

    static void same(String call, String got, String want) {
        due(call + ": the state is " + got + ", due is " + want + ";", got.equals(want), true);
    }

    /** Steps n times; the cycles of the last step. */
    static int steps(BoardMachine machine, int n) {
        int cycles = 0;
        for (int i = 0; i < n; i++) {
            cycles = machine.step();
        }
        return cycles;
    }
}
