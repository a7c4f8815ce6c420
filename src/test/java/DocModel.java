import java.util.ArrayDeque;
import java.util.ArrayList;
import java.util.Deque;
import java.util.List;

/**
 * The document written out a second time, slowly and with nothing of the class: its lists of codes are read
 * as text, the timers go cycle by cycle, memory is a byte an element, and every history is kept whole.
 */
final class DocModel {
    static final String[] LISTS = {
        "LDX A2 IMM, A6 ZP, B6 ZY, AE ABS, BE AY",
        "LDY A0 IMM, A4 ZP, B4 ZX, AC ABS, BC AX",
        "CPX E0 IMM, E4 ZP, EC ABS",
        "CPY C0 IMM, C4 ZP, CC ABS",
        "BIT 89 IMM, 24 ZP, 34 ZX, 2C ABS, 3C AX",
        "STX 86 ZP, 96 ZY, 8E ABS",
        "STY 84 ZP, 94 ZX, 8C ABS",
        "STZ 64 ZP, 74 ZX, 9C ABS, 9E AX",
        "ASL 0A ACC, 06 ZP, 16 ZX, 0E ABS, 1E AX",
        "ROL 2A ACC, 26 ZP, 36 ZX, 2E ABS, 3E AX",
        "LSR 4A ACC, 46 ZP, 56 ZX, 4E ABS, 5E AX",
        "ROR 6A ACC, 66 ZP, 76 ZX, 6E ABS, 7E AX",
        "INC 1A ACC, E6 ZP, F6 ZX, EE ABS, FE AX",
        "DEC 3A ACC, C6 ZP, D6 ZX, CE ABS, DE AX",
        "TSB 04 ZP, 0C ABS",
        "TRB 14 ZP, 1C ABS",
        "BPL 10 REL", "BMI 30 REL", "BVC 50 REL", "BVS 70 REL", "BCC 90 REL", "BCS B0 REL",
        "BNE D0 REL", "BEQ F0 REL", "BRA 80 REL",
        "JMP 4C ABS", "JMPI 6C ABS", "JMPX 7C ABS", "JSR 20 ABS", "RTS 60 IMP", "RTI 40 IMP", "BRK 00 IMP",
        "WAI CB IMP", "STP DB IMP",
    };
    static final String SHORT = "INX E8 INY C8 DEX CA DEY 88 TAX AA TAY A8 TXA 8A TYA 98 TSX BA TXS 9A CLC 18 SEC 38 "
            + "CLI 58 SEI 78 CLV B8 CLD D8 SED F8 NOP EA PHA 48 PHX DA PHY 5A PHP 08 PLA 68 PLX FA PLY 7A PLP 28";
    static final String[] EIGHT = {"ORA", "AND", "EOR", "ADC", "STA", "LDA", "CMP", "SBC"};
    static final String[] EIGHT_MODES = {"IMM 09", "ZP 05", "ZX 15", "ABS 0D", "AX 1D", "AY 19", "IX 01", "IY 11", "IP 12"};

    final String[] name = new String[256];
    final String[] mode = new String[256];

    final int[] low = new int[0x8000];
    final int[][] banks = new int[4][0x2000];
    final int[] fixed = new int[0x4000];

    int a, x, y, s, pc;
    boolean fc, fz, fi, fd, fv, fn;
    boolean waits, stopped, latched;

    int bank;
    int c1 = 65535, c2 = 65535, l1, l2, acr, ifr, ier;
    boolean armed1, armed2;
    int command;
    final Deque<Integer> came = new ArrayDeque<>();
    final List<Integer> gone = new ArrayList<>();
    final List<Integer> carried = new ArrayList<>();
    final List<Integer> breaks = new ArrayList<>();
    long cycles;
    long interrupts;
    int lastWritten;

    DocModel() {
        for (String list : LISTS) {
            String codeName = list.substring(0, list.indexOf(' '));
            for (String entry : list.substring(codeName.length() + 1).split(", ")) {
                enter(Integer.parseInt(entry.substring(0, 2), 16), codeName, entry.substring(3));
            }
        }
        String[] words = SHORT.split(" ");
        for (int i = 0; i < words.length; i += 2) {
            enter(Integer.parseInt(words[i + 1], 16), words[i], "IMP");
        }
        for (int k = 0; k < 8; k++) {
            for (String entry : EIGHT_MODES) {
                String m = entry.substring(0, entry.indexOf(' '));
                int code = Integer.parseInt(entry.substring(m.length() + 1), 16) + 0x20 * k;
                if (!(k == 4 && m.equals("IMM"))) {
                    enter(code, EIGHT[k], m);
                }
            }
            enter(0x07 + 0x10 * k, "RMB", "ZP");
            enter(0x87 + 0x10 * k, "SMB", "ZP");
            enter(0x0F + 0x10 * k, "BBR", "ZPR");
            enter(0x8F + 0x10 * k, "BBS", "ZPR");
        }
    }

    private void enter(int code, String codeName, String codeMode) {
        if (name[code] != null) {
            throw new IllegalStateException("twice: " + code);
        }
        name[code] = codeName;
        mode[code] = codeMode;
    }

    int length(int code) {
        if (name[code] == null) {
            if ((code & 15) == 3 || (code & 15) == 11) {
                return 1;
            }
            return (code & 15) == 12 ? 3 : 2;
        }
        return switch (mode[code]) {
            case "IMP", "ACC" -> 1;
            case "ABS", "AX", "AY", "ZPR" -> 3;
            default -> 2;
        };
    }

    // ---- the map

    int look(int at) {
        if (at <= 0x7FFF) {
            return low[at];
        }
        if (at <= 0x9FFF) {
            return banks[bank][at - 0x8000];
        }
        if (at >= 0xC000) {
            return fixed[at - 0xC000];
        }
        return switch (at) {
            case 0xA004 -> c1 % 256;
            case 0xA005 -> c1 / 256;
            case 0xA006 -> l1 % 256;
            case 0xA007 -> l1 / 256;
            case 0xA008 -> c2 % 256;
            case 0xA009 -> c2 / 256;
            case 0xA00B -> acr;
            case 0xA00D -> ifr + (timerAsks() ? 128 : 0);
            case 0xA00E -> ier + 128;
            case 0xA010 -> came.isEmpty() ? 0 : came.peekFirst();
            case 0xA011 -> 16 + (came.isEmpty() ? 0 : 8) + (portAsks() ? 128 : 0);
            case 0xA012 -> command;
            case 0xA020 -> bank;
            default -> 0;
        };
    }

    boolean timerAsks() {
        return (ifr & ier) != 0;
    }

    boolean portAsks() {
        return !came.isEmpty() && command % 4 == 1;
    }

    private int read(int at) {
        int value = look(at);
        if (at == 0xA004) {
            ifr &= 0xBF;
        }
        if (at == 0xA008) {
            ifr &= 0xDF;
        }
        if (at == 0xA010) {
            came.pollFirst();
        }
        return value;
    }

    private void write(int at, int v) {
        lastWritten = at;
        if (at <= 0x7FFF) {
            low[at] = v;
        } else if (at <= 0x9FFF) {
            banks[bank][at - 0x8000] = v;
        }
        switch (at) {
            case 0xA004, 0xA006 -> l1 = l1 / 256 * 256 + v;
            case 0xA005 -> {
                l1 = l1 % 256 + 256 * v;
                c1 = l1;
                armed1 = true;
                ifr &= 0xBF;
            }
            case 0xA007 -> {
                l1 = l1 % 256 + 256 * v;
                ifr &= 0xBF;
            }
            case 0xA008 -> l2 = v;
            case 0xA009 -> {
                c2 = 256 * v + l2;
                armed2 = true;
                ifr &= 0xDF;
            }
            case 0xA00B -> acr = v;
            case 0xA00D -> {
                for (int bit = 32; bit <= 64; bit *= 2) {
                    if ((v & bit) != 0 && (ifr & bit) != 0) {
                        ifr -= bit;
                    }
                }
            }
            case 0xA00E -> {
                for (int bit = 1; bit <= 64; bit *= 2) {
                    if ((v & bit) != 0) {
                        ier = ier & (127 - bit);
                        if (v >= 128) {
                            ier += bit;
                        }
                    }
                }
            }
            case 0xA010 -> gone.add(v);
            case 0xA011 -> command = 0;
            case 0xA012 -> command = v;
            case 0xA020 -> bank = v % 4;
            default -> { }
        }
    }

    private void cycle() {
        if (c1 != 0) {
            c1--;
        } else {
            boolean bit = (acr / 64) % 2 == 1;
            c1 = bit ? l1 : 65535;
            if (armed1) {
                ifr |= 64;
                if (!bit) {
                    armed1 = false;
                }
            }
        }
        if (c2 != 0) {
            c2--;
        } else {
            c2 = 65535;
            if (armed2) {
                ifr |= 32;
                armed2 = false;
            }
        }
    }

    // ---- the processor

    int flags() {
        return 48 + (fc ? 1 : 0) + (fz ? 2 : 0) + (fi ? 4 : 0) + (fd ? 8 : 0) + (fv ? 64 : 0) + (fn ? 128 : 0);
    }

    void flags(int v) {
        fc = (v & 1) != 0;
        fz = (v & 2) != 0;
        fi = (v & 4) != 0;
        fd = (v & 8) != 0;
        fv = (v & 64) != 0;
        fn = (v & 128) != 0;
    }

    private int nz(int v) {
        int b = Math.floorMod(v, 256);
        fn = b >= 128;
        fz = b == 0;
        return b;
    }

    private void push(int v) {
        write(256 + s, v);
        s = Math.floorMod(s - 1, 256);
    }

    private int pull() {
        s = (s + 1) % 256;
        return read(256 + s);
    }

    private int word(int at) {
        int first = read(at);
        return first + 256 * read((at + 1) % 65536);
    }

    private int zeroWord(int at) {
        int first = read(at);
        return first + 256 * read((at + 1) % 256);
    }

    private void interrupt(int vector, boolean brk) {
        push(pc / 256);
        push(pc % 256);
        push(flags() - (brk ? 0 : 16));
        fi = true;
        fd = false;
        pc = word(vector);
    }

    int step() {
        if (stopped) {
            return 0;
        }
        int n;
        if (latched) {
            latched = false;
            waits = false;
            interrupts++;
            interrupt(0xFFFA, false);
            n = 7;
        } else {
            boolean irq = timerAsks() || portAsks();
            if (irq) {
                waits = false;
            }
            if (irq && !fi) {
                interrupts++;
                interrupt(0xFFFE, false);
                n = 7;
            } else if (waits) {
                n = 1;
            } else {
                n = instruction();
            }
        }
        for (int i = 0; i < n; i++) {
            cycle();
        }
        cycles += n;
        return n;
    }

    private int instruction() {
        carried.add(pc);
        int code = read(pc);
        int size = length(code);
        int b = size > 1 ? read((pc + 1) % 65536) : 0;
        int third = size > 2 ? read((pc + 2) % 65536) : 0;
        pc = (pc + size) % 65536;
        if (name[code] == null) {
            return doNothing(code);
        }
        if (size == 1 && !mode[code].equals("ACC") || mode[code].equals("REL") || mode[code].equals("ZPR")
                || name[code].startsWith("J")) {
            return other(code, b, third);
        }
        int w = b + 256 * third;
        int at = 0;
        int n = 0;
        int from = 0;
        switch (mode[code]) {
            case "ACC", "IMM" -> n = 2;
            case "ZP" -> {
                at = b;
                n = 3;
            }
            case "ZX" -> {
                at = (b + x) % 256;
                n = 4;
            }
            case "ZY" -> {
                at = (b + y) % 256;
                n = 4;
            }
            case "ABS" -> {
                at = w;
                n = 4;
            }
            case "AX", "AY" -> {
                at = (w + (mode[code].equals("AX") ? x : y)) % 65536;
                n = 4 + (at / 256 == w / 256 ? 0 : 1);
            }
            case "IX" -> {
                at = zeroWord((b + x) % 256);
                n = 6;
            }
            case "IY" -> {
                from = zeroWord(b);
                at = (from + y) % 65536;
                n = 5 + (at / 256 == from / 256 ? 0 : 1);
            }
            case "IP" -> {
                at = zeroWord(b);
                n = 5;
            }
            default -> throw new IllegalStateException(mode[code]);
        }
        return onMemory(code, b, at, n);
    }

    private int doNothing(int code) {
        if (length(code) == 1) {
            return 1;
        }
        return switch (code) {
            case 0x44 -> 3;
            case 0x54, 0xD4, 0xF4, 0xDC, 0xFC -> 4;
            case 0x5C -> 8;
            default -> 2;
        };
    }

    private int onMemory(int code, int b, int at, int n) {
        String m = mode[code];
        switch (name[code]) {
            case "STA", "STX", "STY", "STZ" -> {
                write(at, switch (name[code]) {
                    case "STA" -> a;
                    case "STX" -> x;
                    case "STY" -> y;
                    default -> 0;
                });
                return m.equals("AX") || m.equals("AY") ? 5 : m.equals("IY") ? 6 : n;
            }
            case "ASL", "ROL", "LSR", "ROR", "INC", "DEC", "TSB", "TRB", "RMB", "SMB" -> {
                return changing(code, at, n);
            }
            default -> { }
        }
        int it = m.equals("IMM") ? b : read(at);
        switch (name[code]) {
            case "ORA" -> a = nz(a | it);
            case "AND" -> a = nz(a & it);
            case "EOR" -> a = nz(a ^ it);
            case "LDA" -> a = nz(it);
            case "LDX" -> x = nz(it);
            case "LDY" -> y = nz(it);
            case "CMP" -> compare(a, it);
            case "CPX" -> compare(x, it);
            case "CPY" -> compare(y, it);
            case "BIT" -> {
                fz = (a & it) == 0;
                if (!m.equals("IMM")) {
                    fn = it >= 128;
                    fv = it % 128 >= 64;
                }
            }
            case "ADC" -> {
                adc(it);
                return fd ? n + 1 : n;
            }
            case "SBC" -> {
                sbc(it);
                return fd ? n + 1 : n;
            }
            default -> throw new IllegalStateException(name[code]);
        }
        return n;
    }

    private void compare(int register, int it) {
        fc = register >= it;
        nz(register - it);
    }

    private boolean overflow(int it, int sum) {
        boolean one = a >= 128;
        return one == it >= 128 && one != (sum & 255) >= 128;
    }

    private void adc(int it) {
        int carry = fc ? 1 : 0;
        if (!fd) {
            int sum = a + it + carry;
            fv = overflow(it, sum);
            fc = sum > 255;
            a = nz(sum & 255);
            return;
        }
        int l = (a & 15) + (it & 15) + carry;
        if (l > 9) {
            l = (l + 6 & 15) + 16;
        }
        int sum = (a & 0xF0) + (it & 0xF0) + l;
        fv = overflow(it, sum);
        if (sum > 0x9F) {
            sum = sum + 0x60;
        }
        fc = sum > 255;
        a = nz(sum & 255);
    }

    private void sbc(int it) {
        int carry = fc ? 1 : 0;
        int binary = a + (255 - it) + carry;
        boolean v = overflow(255 - it, binary);
        int l = (a & 15) - (it & 15) + carry - 1;
        int sum = a - it + carry - 1;
        if (fd) {
            if (sum < 0) {
                sum = sum - 0x60;
            }
            if (l < 0) {
                sum = sum - 6;
            }
        }
        fv = v;
        fc = binary > 255;
        a = nz(sum & 255);
    }

    private int changing(int code, int at, int n) {
        boolean acc = mode[code].equals("ACC");
        int it = acc ? a : read(at);
        int k = (code & 0x70) / 16;
        int old = fc ? 1 : 0;
        int out = it;
        switch (name[code]) {
            case "ASL" -> {
                fc = it >= 128;
                out = nz(it * 2);
            }
            case "ROL" -> {
                fc = it >= 128;
                out = nz(it * 2 + old);
            }
            case "LSR" -> {
                fc = it % 2 == 1;
                out = nz(it / 2);
            }
            case "ROR" -> {
                fc = it % 2 == 1;
                out = nz(it / 2 + 128 * old);
            }
            case "INC" -> out = nz(it + 1);
            case "DEC" -> out = nz(it - 1);
            case "TSB" -> {
                fz = (a & it) == 0;
                out = it | a;
            }
            case "TRB" -> {
                fz = (a & it) == 0;
                out = it & (255 - a);
            }
            case "RMB" -> out = it & (255 - (1 << k));
            default -> out = it | 1 << k;
        }
        if (acc) {
            a = out;
            return 2;
        }
        write(at, out);
        boolean byOne = name[code].equals("INC") || name[code].equals("DEC");
        return switch (mode[code]) {
            case "ZP" -> 5;
            case "AX" -> byOne ? 7 : n + 2;
            default -> 6;
        };
    }

    private int other(int code, int b, int third) {
        int w = b + 256 * third;
        boolean set = (code & 0x20) != 0;
        switch (name[code]) {
            case "INX" -> x = nz(x + 1);
            case "INY" -> y = nz(y + 1);
            case "DEX" -> x = nz(x - 1);
            case "DEY" -> y = nz(y - 1);
            case "TAX" -> x = nz(a);
            case "TAY" -> y = nz(a);
            case "TXA" -> a = nz(x);
            case "TYA" -> a = nz(y);
            case "TSX" -> x = nz(s);
            case "TXS" -> s = x;
            case "CLC", "SEC" -> fc = set;
            case "CLI", "SEI" -> fi = set;
            case "CLV" -> fv = false;
            case "CLD", "SED" -> fd = set;
            case "NOP" -> { }
            default -> {
                return further(code, b, third, w);
            }
        }
        return 2;
    }

    private int further(int code, int b, int third, int w) {
        int bit = 1 << (code & 0x70) / 16;
        switch (name[code]) {
            case "PHA" -> push(a);
            case "PHX" -> push(x);
            case "PHY" -> push(y);
            case "PHP" -> push(flags());
            case "PLA" -> a = nz(pull());
            case "PLX" -> x = nz(pull());
            case "PLY" -> y = nz(pull());
            case "PLP" -> flags(pull());
            case "BPL", "BMI" -> {
                return branch(fn == name[code].equals("BMI"), 2, b);
            }
            case "BVC", "BVS" -> {
                return branch(fv == name[code].equals("BVS"), 2, b);
            }
            case "BCC", "BCS" -> {
                return branch(fc == name[code].equals("BCS"), 2, b);
            }
            case "BNE", "BEQ" -> {
                return branch(fz == name[code].equals("BEQ"), 2, b);
            }
            case "BRA" -> {
                return branch(true, 2, b);
            }
            case "BBR" -> {
                return branch((read(b) & bit) == 0, 5, third);
            }
            case "BBS" -> {
                return branch((read(b) & bit) != 0, 5, third);
            }
            case "WAI" -> waits = true;
            case "STP" -> stopped = true;
            default -> {
                return jump(code, w);
            }
        }
        return name[code].startsWith("PL") ? 4 : 3;
    }

    private int branch(boolean taken, int n, int b) {
        if (!taken) {
            return n;
        }
        int follows = pc;
        pc = Math.floorMod(pc + (b < 128 ? b : b - 256), 65536);
        return n + 1 + (pc / 256 == follows / 256 ? 0 : 1);
    }

    private int jump(int code, int w) {
        switch (name[code]) {
            case "JMP" -> {
                pc = w;
                return 3;
            }
            case "JMPI" -> pc = word(w);
            case "JMPX" -> pc = word((w + x) % 65536);
            case "JSR" -> {
                int last = Math.floorMod(pc - 1, 65536);
                push(last / 256);
                push(last % 256);
                pc = w;
            }
            case "RTS" -> {
                int first = pull();
                pc = (first + 256 * pull() + 1) % 65536;
            }
            case "RTI" -> {
                flags(pull());
                int first = pull();
                pc = first + 256 * pull();
            }
            case "BRK" -> {
                pc = (pc + 1) % 65536;
                interrupt(0xFFFE, true);
                return 7;
            }
            default -> throw new IllegalStateException(name[code]);
        }
        return 6;
    }

    // ---- the face

    void load(int address, long bytes, int n) {
        for (int i = n - 1; i >= 0; i--) {
            int at = address + i;
            int v = (int) Math.floorMod(bytes, 256L);
            bytes = Math.floorDiv(bytes, 256L);
            if (at <= 0x9FFF) {
                write(at, v);
            } else if (at >= 0xC000) {
                fixed[at - 0xC000] = v;
            }
        }
    }

    void reset() {
        s = 0xFD;
        fi = true;
        fd = false;
        pc = word(0xFFFC);
        waits = false;
        stopped = false;
        latched = false;
        bank = 0;
        c1 = 65535;
        c2 = 65535;
        l1 = 0;
        l2 = 0;
        acr = 0;
        ifr = 0;
        ier = 0;
        armed1 = false;
        armed2 = false;
        command = 0;
        came.clear();
    }

    int run(int n) {
        int left = n;
        while (!stopped) {
            if (left == 0) {
                return 0;
            }
            step();
            left--;
            if (!stopped && breaks.contains(pc)) {
                return 1;
            }
        }
        return 2;
    }

    int receive(int b) {
        if (came.size() >= 64 || b < 0 || b > 255) {
            return -1;
        }
        came.addLast(b);
        return came.size();
    }

    int sent(int i) {
        return i < 0 || i >= gone.size() || gone.size() - i > 256 ? -1 : gone.get(i);
    }

    int register(int i) {
        int[] all = {a, x, y, s, flags(), pc};
        return i < 0 || i > 5 ? -1 : all[i];
    }

    void set(int i, int v) {
        int b = Math.floorMod(v, 256);
        switch (i) {
            case 0 -> a = b;
            case 1 -> x = b;
            case 2 -> y = b;
            case 3 -> s = b;
            case 4 -> flags(b);
            default -> pc = Math.floorMod(v, 65536);
        }
    }

    boolean setBreak(int address) {
        if (address < 0 || address > 65535 || breaks.size() == 16 || breaks.contains(address)) {
            return false;
        }
        return breaks.add(address);
    }

    boolean clearBreak(int address) {
        return breaks.remove((Object) address);
    }

    int trace(int i) {
        int first = Math.max(0, carried.size() - 32);
        return i < 0 || first + i >= carried.size() || i > 31 ? -1 : carried.get(first + i);
    }

    long count(int what) {
        long[] all = {cycles, carried.size(), gone.size(), came.size(), bank, c1, c2, l1, ifr, ier,
            waits ? 1 : 0, stopped ? 1 : 0, latched ? 1 : 0, breaks.size(), interrupts};
        return what < 0 || what >= all.length ? -1 : all[what];
    }
}
