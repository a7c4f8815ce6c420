import java.util.function.LongSupplier;

/** What the tests share: comparing answers, and loading programs. */
final class Check {
    static final int A = 0;
    static final int X = 1;
    static final int Y = 2;
    static final int S = 3;
    static final int P = 4;
    static final int PC = 5;

    static final int START = 0xC000;

    private static int made = 0;
    private static int wrong = 0;

    private Check() {
    }

    static void due(String call, long got, long want) {
        made++;
        if (got != want) {
            wrong++;
            System.out.println(call + " answered " + got + ", due is " + want);
        }
    }

    static void due(String call, boolean got, boolean want) {
        due(call, got ? 1 : 0, want ? 1 : 0);
    }

    static void refused(String call, Runnable made) {
        String got = "nothing";
        try {
            made.run();
        } catch (RuntimeException e) {
            got = e.getClass().getName();
        }
        due(call + " threw " + got + "; IllegalArgumentException",
                got.equals("java.lang.IllegalArgumentException"), true);
    }

    static void answers(String call, LongSupplier made, long want) {
        try {
            due(call, made.getAsLong(), want);
        } catch (RuntimeException e) {
            due(call + " threw " + e, 1, 0);
        }
    }

    static void end() {
        System.out.println(made + " answers looked at, " + wrong + " not as due");
        if (wrong != 0 || made == 0) {
            System.exit(1);
        }
    }

    static void load(BoardMachine machine, int address, int... bytes) {
        for (int i = 0; i < bytes.length; i++) {
            machine.load(address + i, bytes[i], 1);
        }
    }

    /** A machine after a reset, about to carry out the program at START. */
    static BoardMachine with(int... program) {
        BoardMachine machine = new BoardMachine();
        load(machine, START, program);
        load(machine, 0xFFFC, START & 255, START >> 8);
        machine.reset();
        return machine;
    }

    /** Steps n times; the cycles of the last step. */
    static int steps(BoardMachine machine, int n) {
        int cycles = 0;
        for (int i = 0; i < n; i++) {
            cycles = machine.step();
        }
        return cycles;
    }
}
