/** Promise 9: look. */
public final class LookTest {
    public static void main(String[] args) {
        // IER bits 6, 5; both counters at 0, armed; two NOPs for them to go round.
        BoardMachine m = Check.with(0xA9, 0xE0, 0x8D, 0x0E, 0xA0, 0x9C, 0x05, 0xA0, 0x9C, 0x09, 0xA0, 0xEA, 0xEA);
        m.receive(7);
        m.receive(8);
        Check.steps(m, 6);
        Check.due("IFR", m.count(8), 96);
        int[] first = new int[0xA022];
        for (int at = 0xA000; at < first.length; at++) {
            first[at] = m.look(at);
        }
        for (int at = 0xA000; at < first.length; at++) {
            Check.due("look(" + at + ") once more", m.look(at), first[at]);
        }
        Check.due("IFR behind looks", m.count(8), 96);
        Check.due("bytes that wait behind looks", m.count(3), 2);
        Check.due("look(0xA010)", m.look(0xA010), 7);
        Check.due("look(0xA00D)", m.look(0xA00D), 224);
        Check.due("look(0xA00E)", m.look(0xA00E), 224);
        Check.due("look(0xA011)", m.look(0xA011), 24);
        Check.due("look(0xC001)", m.look(0xC001), 0xE0);
        Check.due("look of counter 1", m.look(0xA004) + 256 * m.look(0xA005), m.count(5));
        Check.due("look of counter 2", m.look(0xA008) + 256 * m.look(0xA009), m.count(6));
        for (int at : new int[] {-1, 65536, Integer.MIN_VALUE, Integer.MAX_VALUE}) {
            Check.refused("look(" + at + ")", () -> m.look(at));
        }
        Check.answers("look(0)", () -> m.look(0), 0);
        Check.answers("look(65535)", () -> m.look(65535), 0);
        Check.end();
    }
}
