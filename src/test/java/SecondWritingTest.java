import java.util.Random;

/** Promises 1 to 15: the class and the second writing of the document answer alike in many runs of calls. */
public final class SecondWritingTest {
    private static final int RUNS = 6000;
    // With the questions behind each, and the loads ahead, no object sees more than its 512 calls.
    private static final int CALLS = 110;
    private static final int QUESTIONS = 3;
    private static final int[] DEVICES = {
        0xA004, 0xA005, 0xA006, 0xA007, 0xA008, 0xA009, 0xA00B, 0xA00D, 0xA00E,
        0xA010, 0xA011, 0xA012, 0xA020, 0x8000, 0x9FFF, 0xA000, 0xA00F, 0xA013, 0xBFFF,
    };

    private final Random random;
    private final BoardMachine machine = new BoardMachine();
    private final DocModel model = new DocModel();
    private final int kind;

    private SecondWritingTest(long seed) {
        random = new Random(seed);
        kind = random.nextInt(4);
    }

    public static void main(String[] args) {
        everyCode();
        for (int seed = 0; seed < RUNS; seed++) {
            new SecondWritingTest(seed).go(seed);
        }
        Check.end();
    }

    /** Each code alone, with registers, operands and memory of many kinds. */
    private static void everyCode() {
        for (int code = 0; code < 256; code++) {
            for (int round = 0; round < 40; round++) {
                SecondWritingTest t = new SecondWritingTest(1000L * code + round);
                for (int i = 0; i < 256; i += 8) {
                    t.load(i, t.random.nextLong(), 8);
                    t.load(256 + i, t.random.nextLong(), 8);
                }
                t.load(0xFFFA, t.random.nextLong(), 6);
                int at = t.random.nextInt(4) == 0 ? t.address() : 0x200 + t.random.nextInt(0x7000);
                t.load(Math.min(at, 65528), (long) code << 56 | t.random.nextLong() >>> 8, 8);
                for (int i = 0; i < 5; i++) {
                    t.setRegister(i, t.random.nextInt(256));
                }
                t.setRegister(5, at);
                t.step();
                t.compare("code " + code + " round " + round);
            }
        }
    }

    private void go(int seed) {
        for (int i = 0; i < 40; i++) {
            loadCode(0xC000 + 8 * i);
        }
        load(0xFFFA, 0xC000C008C010L, 6);
        machine.reset();
        model.reset();
        for (int i = 0; i < CALLS; i++) {
            call();
            for (int k = 0; k < QUESTIONS; k++) {
                ask("run " + seed + " call " + i);
            }
        }
    }

    private void loadCode(int address) {
        long bytes = random.nextLong();
        if (kind > 0) {
            // Stores to and loads from devices, that bytes by chance hardly ever make.
            int[] codes = {0xAD, 0x8D, 0xEE, 0x2C, 0x0C, 0x9C, 0x8D, 0x8E};
            long device = DEVICES[random.nextInt(DEVICES.length)];
            bytes = bytes << 24 | (long) codes[random.nextInt(8)] << 16 | (device & 255) << 8 | device >> 8;
        }
        load(address, bytes, 8);
    }

    private int address() {
        return switch (random.nextInt(4)) {
            case 0 -> DEVICES[random.nextInt(DEVICES.length)];
            case 1 -> 0xC000 + random.nextInt(320);
            case 2 -> random.nextInt(512);
            default -> random.nextInt(65536);
        };
    }

    private void call() {
        switch (random.nextInt(16)) {
            case 0 -> load(Math.min(address(), 65528), random.nextLong(), 1 + random.nextInt(8));
            case 1 -> setRegister(random.nextInt(6), random.nextInt());
            case 2 -> setRegister(5, 0xC000 + random.nextInt(320));
            case 3 -> {
                machine.nmi();
                model.latched = true;
            }
            case 4, 5 -> {
                int b = random.nextInt(260) - 2;
                Check.due("receive(" + b + ")", machine.receive(b), model.receive(b));
            }
            case 6 -> {
                int at = address();
                Check.due("setBreak(" + at + ")", machine.setBreak(at), model.setBreak(at));
            }
            case 7 -> {
                int at = model.breaks.isEmpty() ? address() : model.breaks.get(random.nextInt(model.breaks.size()));
                Check.due("clearBreak(" + at + ")", machine.clearBreak(at), model.clearBreak(at));
            }
            case 8 -> {
                if (model.stopped || random.nextInt(8) == 0) {
                    machine.reset();
                    model.reset();
                }
            }
            case 9, 10, 11 -> {
                int n = random.nextInt(60);
                Check.due("run(" + n + ")", machine.run(n), model.run(n));
            }
            default -> step();
        }
    }

    private void load(int address, long bytes, int n) {
        machine.load(address, bytes, n);
        model.load(address, bytes, n);
    }

    private void setRegister(int i, int v) {
        machine.set(i, v);
        model.set(i, v);
    }

    private void step() {
        Check.due("step()", machine.step(), model.step());
    }

    private void ask(String where) {
        switch (random.nextInt(6)) {
            case 0 -> register(where, random.nextInt(8) - 1);
            case 1, 2 -> count(where, random.nextInt(17) - 1);
            case 3 -> trace(where, random.nextInt(34) - 1);
            case 4 -> look(where, random.nextBoolean() ? model.lastWritten : address());
            default -> sent(where, random.nextInt(model.gone.size() + 2) - 1);
        }
    }

    private void compare(String where) {
        for (int i = -1; i <= 6; i++) {
            register(where, i);
        }
        for (int i = -1; i <= 15; i++) {
            count(where, i);
        }
        for (int i = -1; i <= 32; i++) {
            trace(where, i);
        }
        for (int at : DEVICES) {
            look(where, at);
        }
        for (int i = -4; i < 5; i++) {
            look(where, 256 + (model.s + i & 255));
        }
        for (int i = 0; i < 16; i++) {
            look(where, address());
        }
        look(where, model.lastWritten);
        sent(where, 0);
    }

    private void register(String where, int i) {
        Check.due(where + ": register(" + i + ")", machine.register(i), model.register(i));
    }

    private void count(String where, int what) {
        Check.due(where + ": count(" + what + ")", machine.count(what), model.count(what));
    }

    private void trace(String where, int i) {
        Check.due(where + ": trace(" + i + ")", machine.trace(i), model.trace(i));
    }

    private void look(String where, int at) {
        Check.due(where + ": look(" + at + ")", machine.look(at), model.look(at));
    }

    private void sent(String where, int i) {
        Check.due(where + ": sent(" + i + ")", machine.sent(i), model.sent(i));
    }
}
