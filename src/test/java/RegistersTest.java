/** Promises 10 and 11: register and set. */
public final class RegistersTest {
    public static void main(String[] args) {
        BoardMachine m = new BoardMachine();
        for (int i = 0; i < 6; i++) {
            m.set(i, 65 + i);
        }
        int[] want = {65, 66, 67, 68, 69 | 48, 70};
        for (int i = 0; i < 6; i++) {
            Check.due("register(" + i + ")", m.register(i), want[i]);
        }
        for (int i : new int[] {-1, 6, Integer.MIN_VALUE, Integer.MAX_VALUE}) {
            Check.due("register(" + i + ")", m.register(i), BoardMachine.NONE);
            Check.refused("set(" + i + ", 1)", () -> m.set(i, 1));
        }
        for (int i = 0; i < 6; i++) {
            m.set(i, 0x12345678);
            int wide = i == 5 ? 0x5678 : i == 4 ? 0x78 : 0x78;
            Check.due("register(" + i + ") of 0x12345678", m.register(i), wide);
            m.set(i, -1);
            Check.due("register(" + i + ") of -1", m.register(i), i == 5 ? 65535 : 255);
            m.set(i, 65536);
            Check.due("register(" + i + ") of 65536", m.register(i), i == 4 ? 48 : 0);
        }
        m.set(Check.PC, 0x200);
        m.load(0x200, 0xE8, 1);
        m.set(Check.X, 41);
        m.step();
        Check.due("X behind INX", m.register(Check.X), 42);
        Check.due("PC behind it", m.register(Check.PC), 0x201);
        Check.end();
    }
}
