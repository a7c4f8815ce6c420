/** Promise 1: a new object. */
public final class NewObjectTest {
    public static void main(String[] args) {
        BoardMachine m = new BoardMachine();
        int[] registers = {0, 0, 0, 0, 48, 0};
        for (int i = 0; i < registers.length; i++) {
            Check.due("register(" + i + ")", m.register(i), registers[i]);
        }
        long[] counts = {0, 0, 0, 0, 0, 65535, 65535, 0, 0, 0, 0, 0, 0, 0, 0};
        for (int i = 0; i < counts.length; i++) {
            Check.due("count(" + i + ")", m.count(i), counts[i]);
        }
        Check.due("trace(0)", m.trace(0), BoardMachine.NONE);
        Check.due("sent(0)", m.sent(0), BoardMachine.NONE);
        memoryIsZero();
        firstStepIsBrk();
        objectsShareNothing();
        Check.end();
    }

    private static void memoryIsZero() {
        BoardMachine m = null;
        for (int at = 0; at < 65536; at++) {
            // Of one object, 512 calls are promised.
            if (at % 256 == 0) {
                m = new BoardMachine();
            }
            int want = switch (at) {
                case 0xA004, 0xA005, 0xA008, 0xA009 -> 255;
                case 0xA00E -> 128;
                case 0xA011 -> 16;
                default -> 0;
            };
            Check.due("look(" + at + ")", m.look(at), want);
        }
    }

    private static void firstStepIsBrk() {
        BoardMachine m = new BoardMachine();
        Check.due("step()", m.step(), 7);
        Check.due("S behind it", m.register(Check.S), 253);
        Check.due("P behind it", m.register(Check.P), 52);
        Check.due("pushed at 0x1FF", m.look(0x1FF), 2);
        Check.due("pushed at 0x1FE", m.look(0x1FE), 48);
    }

    private static void objectsShareNothing() {
        BoardMachine one = new BoardMachine();
        BoardMachine other = new BoardMachine();
        one.load(0x10, 7, 1);
        one.set(0, 9);
        one.receive(5);
        one.setBreak(3);
        one.step();
        Check.due("another object's memory", other.look(0x10), 0);
        Check.due("another object's A", other.register(0), 0);
        Check.due("another object's bytes that wait", other.count(3), 0);
        Check.due("another object's break points", other.count(13), 0);
        Check.due("another object's trace", other.trace(0), BoardMachine.NONE);
    }
}
