/** Promise 5: run. */
public final class RunTest {
    public static void main(String[] args) {
        allMade();
        breakPoints();
        stopped();
        refusals();
        Check.end();
    }

    private static void allMade() {
        BoardMachine m = Check.with(0xE8, 0x80, 0xFD);
        Check.due("run(0)", m.run(0), 0);
        Check.due("steps behind run(0)", m.count(1), 0);
        Check.due("run(1)", m.run(1), 0);
        Check.due("steps behind run(1)", m.count(1), 1);
        Check.due("run(100000)", m.run(100000), 0);
        Check.due("steps behind run(100000)", m.count(1), 100001);
        Check.due("cycles behind it", m.count(0), 2 * 50001 + 3 * 50000);
    }

    private static void breakPoints() {
        BoardMachine m = Check.with(0xE8, 0xE8, 0xE8, 0x80, 0xFB);
        m.setBreak(0xC000);
        m.setBreak(0xC002);
        Check.due("run(0) at a break point", m.run(0), 0);
        Check.due("run(10)", m.run(10), 1);
        Check.due("PC", m.register(Check.PC), 0xC002);
        Check.due("X", m.register(Check.X), 2);
        Check.due("run(2) to one, by its last step", m.run(2), 1);
        Check.due("PC", m.register(Check.PC), 0xC000);
        Check.due("run(1) past none", m.run(1), 0);
        Check.due("step() looks at none", m.step(), 2);
        m.clearBreak(0xC000);
        m.clearBreak(0xC002);
        Check.due("run(10) without one", m.run(10), 0);
        // Waiting at a break point: PC is one behind each step.
        BoardMachine w = Check.with(0xCB, 0xEA);
        w.setBreak(0xC001);
        Check.due("run(5) to WAI's end", w.run(5), 1);
        Check.due("run(5) waiting", w.run(5), 1);
        Check.due("cycles", w.count(0), 4);
    }

    private static void stopped() {
        BoardMachine m = Check.with(0xEA, 0xDB, 0xEA);
        m.setBreak(0xC002);
        Check.due("run(1)", m.run(1), 0);
        Check.due("run(1) of STP, stopped ahead of the break point", m.run(1), 2);
        Check.due("run(0) when stopped", m.run(0), 2);
        Check.due("run(7) when stopped", m.run(7), 2);
        Check.due("cycles", m.count(0), 5);
        m.reset();
        Check.due("run(1) behind a reset", m.run(1), 0);
    }

    private static void refusals() {
        BoardMachine m = Check.with(0xEA, 0xDB);
        for (int n : new int[] {-1, 100001, Integer.MIN_VALUE, Integer.MAX_VALUE}) {
            Check.refused("run(" + n + ")", () -> m.run(n));
        }
        Check.due("steps behind refused runs", m.count(1), 0);
        m.run(2);
        Check.refused("run(-1) when stopped", () -> m.run(-1));
    }
}
