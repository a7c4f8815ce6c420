/** Promises 12 and 13: setBreak and clearBreak. */
public final class BreaksTest {
    public static void main(String[] args) {
        BoardMachine m = Check.with(0xEA, 0xEA, 0xEA, 0xDB);
        for (int at : new int[] {-1, 65536, Integer.MIN_VALUE, Integer.MAX_VALUE}) {
            Check.due("setBreak(" + at + ")", m.setBreak(at), false);
            Check.due("clearBreak(" + at + ")", m.clearBreak(at), false);
        }
        Check.due("clearBreak(0) without one", m.clearBreak(0), false);
        Check.due("setBreak(0)", m.setBreak(0), true);
        Check.due("setBreak(0) again", m.setBreak(0), false);
        Check.due("setBreak(65535)", m.setBreak(65535), true);
        for (int i = 2; i < 16; i++) {
            Check.due("setBreak to " + (i + 1), m.setBreak(0x5000 + i), true);
        }
        Check.due("setBreak of a seventeenth", m.setBreak(0xC001), false);
        Check.due("count(13)", m.count(13), 16);
        Check.due("run(1) without it", m.run(1), 0);
        Check.due("clearBreak(0x5007)", m.clearBreak(0x5007), true);
        Check.due("clearBreak(0x5007) again", m.clearBreak(0x5007), false);
        Check.due("count(13)", m.count(13), 15);
        Check.due("setBreak(0xC002)", m.setBreak(0xC002), true);
        Check.due("setBreak(0xC003)", m.setBreak(0xC003), false);
        Check.due("run(5)", m.run(5), 1);
        Check.due("PC", m.register(Check.PC), 0xC002);
        Check.due("clearBreak(0)", m.clearBreak(0), true);
        Check.due("clearBreak(65535)", m.clearBreak(65535), true);
        Check.due("clearBreak(0x500F)", m.clearBreak(0x500F), true);
        Check.due("clearBreak(0xC002)", m.clearBreak(0xC002), true);
        Check.due("count(13)", m.count(13), 12);
        for (int i = 2; i < 15; i++) {
            Check.due("clearBreak of another " + i, m.clearBreak(0x5000 + i), i != 7);
        }
        Check.due("count(13)", m.count(13), 0);
        Check.due("setBreak(0) once more", m.setBreak(0), true);
        m.reset();
        Check.due("a reset leaves break points", m.count(13), 1);
        Check.due("run(9)", m.run(9), 2);
        Check.end();
    }
}
