/** Promise 2: load. */
public final class LoadTest {
    public static void main(String[] args) {
        highestByteFirst();
        places();
        banks();
        refusals();
        Check.end();
    }

    private static void highestByteFirst() {
        BoardMachine m = new BoardMachine();
        m.load(0x200, 0x1122334455667788L, 8);
        for (int i = 0; i < 8; i++) {
            Check.due("byte " + i + " of eight", m.look(0x200 + i), 0x11 * (i + 1));
        }
        m.load(0x202, 0xAABBCCDDEEFF0199L, 3);
        int[] want = {0x11, 0x22, 0xFF, 0x01, 0x99, 0x66};
        for (int i = 0; i < want.length; i++) {
            Check.due("byte " + i + " behind three more", m.look(0x200 + i), want[i]);
        }
        m.load(0x300, -1, 1);
        Check.due("-1 as one byte", m.look(0x300), 255);
        Check.due("behind it", m.look(0x301), 0);
    }

    private static void places() {
        BoardMachine m = new BoardMachine();
        m.load(0, 0x0102, 2);
        Check.due("at 0", m.look(0), 1);
        m.load(0x7FFF, 0x0304, 2);
        Check.due("at 0x7FFF", m.look(0x7FFF), 3);
        Check.due("at 0x8000", m.look(0x8000), 4);
        m.load(0x9FFE, 0x0506FFFFFFFFFFFFL, 8);
        Check.due("at 0x9FFF", m.look(0x9FFF), 6);
        Check.due("at 0xA000, a device", m.look(0xA000), 0);
        for (int at = 0xA000; at < 0xA028; at += 8) {
            m.load(at, -1, 8);
        }
        Check.due("counter 1 behind loads over devices", m.count(5), 65535);
        Check.due("latch 1", m.count(7), 0);
        Check.due("IER", m.count(9), 0);
        Check.due("bank", m.count(4), 0);
        Check.due("bytes sent", m.count(2), 0);
        Check.due("command", m.look(0xA012), 0);
        m.load(0xBFFE, 0x11112233, 4);
        Check.due("at 0xBFFF", m.look(0xBFFF), 0);
        Check.due("at 0xC000", m.look(0xC000), 0x22);
        Check.due("at 0xC001", m.look(0xC001), 0x33);
        m.load(0xFFFF, 0x77, 1);
        Check.due("at 0xFFFF", m.look(0xFFFF), 0x77);
        m.load(0xFFF8, 0x0102030405060708L, 8);
        Check.due("the last eight, first", m.look(0xFFF8), 1);
        Check.due("the last eight, last", m.look(0xFFFF), 8);
        Check.due("0 is not behind 0xFFFF here", m.look(0), 1);
    }

    private static void banks() {
        // LDX #k; STX 0xA020 for each bank, with a load between.
        BoardMachine m = Check.with(0xE8, 0x8E, 0x20, 0xA0, 0x80, 0xFA);
        m.load(0x8000, 10, 1);
        for (int bank = 1; bank <= 3; bank++) {
            Check.steps(m, 2);
            Check.due("count(4)", m.count(4), bank);
            Check.due("bank " + bank + " at first", m.look(0x8000), 0);
            m.load(0x8000, 10 + bank, 1);
            m.load(0x9FFF, 20 + bank, 1);
            Check.steps(m, 1);
        }
        for (int bank = 0; bank <= 3; bank++) {
            Check.steps(m, 2);
            Check.due("bank " + bank + " keeps its own", m.look(0x8000), 10 + bank);
            Check.due("bank " + bank + " at its end", m.look(0x9FFF), bank == 0 ? 0 : 20 + bank);
            Check.steps(m, 1);
        }
        Check.due("memory below is no bank's", m.look(0x7FFF), 0);
    }

    private static void refusals() {
        BoardMachine m = new BoardMachine();
        for (int n : new int[] {0, -1, 9, Integer.MIN_VALUE, Integer.MAX_VALUE}) {
            Check.refused("load(16, 1, " + n + ")", () -> m.load(16, 1, n));
        }
        for (int at : new int[] {-1, 65536, 65529, Integer.MAX_VALUE, Integer.MIN_VALUE, Integer.MAX_VALUE - 7}) {
            Check.refused("load(" + at + ", -1, 8)", () -> m.load(at, -1, 8));
        }
        Check.refused("load(65535, -1, 2)", () -> m.load(65535, -1, 2));
        Check.refused("load(65536, -1, 1)", () -> m.load(65536, -1, 1));
        Check.due("a refused load writes nothing at 65535", m.look(65535), 0);
        Check.due("nor at 65529", m.look(65529), 0);
        Check.due("nor at 16", m.look(16), 0);
    }
}
