/** Promise 14: trace. */
public final class TraceTest {
    public static void main(String[] args) {
        few();
        many();
        onlyInstructions();
        Check.end();
    }

    private static void few() {
        BoardMachine m = Check.with(0xA9, 0x01, 0x4C, 0x00, 0xD0);
        m.step();
        m.step();
        m.step();
        int[] want = {0xC000, 0xC002, 0xD000};
        for (int i = 0; i < 3; i++) {
            Check.due("trace(" + i + ")", m.trace(i), want[i]);
        }
        for (int i : new int[] {3, 31, 32, -1, Integer.MIN_VALUE, Integer.MAX_VALUE}) {
            Check.due("trace(" + i + ") of three", m.trace(i), BoardMachine.NONE);
        }
    }

    private static void many() {
        BoardMachine m = new BoardMachine();
        for (int i = 0; i < 100; i++) {
            m.load(0x200 + i, 0xEA, 1);
        }
        m.set(Check.PC, 0x200);
        m.run(32);
        Check.due("trace(0) of 32", m.trace(0), 0x200);
        Check.due("trace(31) of 32", m.trace(31), 0x21F);
        m.run(13);
        for (int i = 0; i < 32; i++) {
            Check.due("trace(" + i + ") of 45", m.trace(i), 0x200 + 13 + i);
        }
        Check.due("trace(32)", m.trace(32), BoardMachine.NONE);
        Check.due("trace(-1)", m.trace(-1), BoardMachine.NONE);
        m.reset();
        Check.due("trace(31) behind a reset", m.trace(31), 0x200 + 44);
    }

    private static void onlyInstructions() {
        // WAI, then waiting, an NMI, and STP: the waiting steps and the interrupt are no instructions.
        BoardMachine m = Check.with(0xCB);
        m.load(0xFFFA, 0x00D0, 2);
        m.load(0xD000, 0xDB, 1);
        Check.steps(m, 4);
        m.nmi();
        Check.steps(m, 4);
        Check.due("trace(0)", m.trace(0), 0xC000);
        Check.due("trace(1)", m.trace(1), 0xD000);
        Check.due("trace(2)", m.trace(2), BoardMachine.NONE);
        Check.due("count(1)", m.count(1), 2);
    }
}
