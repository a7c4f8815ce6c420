/** The sentences of 'AN INSTRUCTION' and 'MODES': where addresses go round, and where a cycle more is taken. */
public final class ModeBoundsTest {
    public static void main(String[] args) {
        Check.sentence("AN INSTRUCTION is its code at PC and what follows: for one of two bytes b, of three a word w; "
                + "PC goes behind it first", ModeBoundsTest::lastAddresses);
        Check.sentence("All of these bytes are read, in their order, ahead of what it does",
                ModeBoundsTest::readAhead);
        Check.sentence("of BRK the code alone", ModeBoundsTest::brkAlone);
        Check.sentence("Words are read lower byte first", ModeBoundsTest::lowerFirst);
        Check.sentence("Whatever the processor reads, an instruction's bytes, words, vectors, what lies on the stack, "
                + "is read by the map", ModeBoundsTest::readByTheMap);
        Check.sentence("ZP (2, 3): the byte at b", ModeBoundsTest::zeroPage);
        Check.sentence("ZX, ZY (2, 4): at b + X, b + Y (a byte)", ModeBoundsTest::zeroPageIndexed);
        Check.sentence("ABS (3, 4): at w", ModeBoundsTest::absolute);
        Check.sentence("AX, AY (3, 4 and 1 if w and the address differ in their upper bytes): at w + X, w + Y",
                ModeBoundsTest::absoluteIndexed);
        Check.sentence("IX (2, 6): at the word at b + X", ModeBoundsTest::indexedIndirect);
        Check.sentence("IY (2, 5, and 1 as AX): at the word at b, + Y", ModeBoundsTest::indirectIndexed);
        Check.sentence("IP (2, 5): at the word at b", ModeBoundsTest::indirect);
        Check.sentence("Words at b: both bytes from 0 .. 255, the second behind 255 at 0", ModeBoundsTest::wordsAtB);
        Check.end();
    }

    private static void lastAddresses() {
        for (int at : new int[] {0xFFFC, 0xFFFD, 0xFFFE, 0xFFFF}) {
            BoardMachine two = Check.at(at, 0xA9, 0x5C);
            two.step();
            Check.due("LDA # at " + at, two.register(Check.A), 0x5C);
            Check.due("PC behind it", two.register(Check.PC), at + 2 & 0xFFFF);
            BoardMachine three = Check.at(at, 0xAD, 0x34, 0x12);
            three.load(0x1234, 0x5D, 1);
            three.step();
            Check.due("LDA ABS at " + at, three.register(Check.A), 0x5D);
            Check.due("PC behind it", three.register(Check.PC), at + 3 & 0xFFFF);
            BoardMachine bits = Check.at(at, 0x8F, 0x40, 0x10);
            bits.load(0x40, 1, 1);
            bits.step();
            Check.due("PC behind BBS at " + at, bits.register(Check.PC), at + 3 + 16 & 0xFFFF);
        }
        // What it does comes behind PC's going: a branch goes from what follows, and a push is of what follows.
        BoardMachine self = Check.at(0x200, 0x80, 0xFE);
        self.step();
        Check.due("BRA by -2", self.register(Check.PC), 0x200);
    }

    private static void readAhead() {
        // JSR overwrites its own second and third byte, that have been read.
        BoardMachine jsr = Check.at(0x1FC, 0x20, 0x34, 0x12);
        jsr.set(Check.S, 0xFE);
        jsr.step();
        Check.due("JSR over its own bytes", jsr.register(Check.PC), 0x1234);
        Check.due("its third byte", jsr.look(0x1FE), 0x01);
        Check.due("its second byte", jsr.look(0x1FD), 0xFE);
        // The code is taken out of the port ahead of the port's state, that is b.
        BoardMachine order = new BoardMachine();
        order.receive(0xA9);
        order.set(Check.PC, 0xA010);
        order.step();
        Check.due("b: no byte waits any more", order.register(Check.A), 16);
        // Codes that do nothing read their bytes, too, and so does a branch that is not taken.
        Check.due("a code of two bytes reads b", readsB(0x02), true);
        Check.due("a code of one byte reads no b", readsB(0x03), false);
        Check.due("a code of three bytes reads b", readsB(0x5C), true);
        Check.due("a branch that is not taken reads b", readsB(0xB0), true);
        Check.due("BRK reads no b", readsB(0x00), false);
        for (int code : new int[] {0xCB, 0x40, 0x60, 0x48, 0x18, 0x0A}) {
            Check.due("code " + code + " of one byte reads no b", readsB(code), false);
        }
        // A byte that is written by the instruction over itself is read before.
        BoardMachine over = Check.at(0x41, 0x85, 0x42);
        over.set(Check.A, 0x99);
        over.step();
        Check.due("STA over its own b", over.look(0x42), 0x99);
        Check.due("PC", over.register(Check.PC), 0x43);
    }

    /** The code is latch 1's upper byte, and b, behind it, register 8, whose reading makes bit 5 of IFR 0. */
    private static boolean readsB(int code) {
        BoardMachine m = new BoardMachine();
        Check.write(m, 0xA007, code);
        Check.write(m, 0xA009, 0);
        Check.due("IFR ahead of it", m.count(8), 32);
        m.set(Check.PC, 0xA007);
        m.set(Check.P, 0);
        m.step();
        return m.count(8) == 0;
    }

    private static void brkAlone() {
        BoardMachine m = new BoardMachine();
        m.receive(65);
        m.set(Check.PC, 0xA00F);
        Check.due("BRK at 0xA00F", m.step(), 7);
        Check.due("the byte behind its code is not read", m.count(3), 1);
        Check.due("pushed: two further", m.look(0x1FF), 0x11);
        // Its code itself is read by the map: the port's byte 0 is taken, and no second one.
        BoardMachine n = new BoardMachine();
        n.receive(0);
        n.receive(0);
        n.set(Check.PC, 0xA010);
        n.step();
        Check.due("its code is read once", n.count(3), 1);
    }

    private static void lowerFirst() {
        BoardMachine one = Check.at(0x200, 0x6C, 0x10, 0xA0);
        one.receive(0x34);
        one.step();
        Check.due("JMP to the word at the port, its byte being taken first", one.register(Check.PC), 0x1034);
        BoardMachine two = Check.at(0x200, 0x6C, 0x10, 0xA0);
        two.receive(0x34);
        two.receive(0x35);
        two.step();
        Check.due("JMP likewise, with another byte", two.register(Check.PC), 0x1834);
        BoardMachine x = Check.at(0x200, 0x7C, 0x0F, 0xA0);
        x.set(Check.X, 1);
        x.receive(0x36);
        x.step();
        Check.due("JMP by X likewise", x.register(Check.PC), 0x1036);
        BoardMachine pulled = Check.at(0x200, 0x60);
        pulled.load(0x101, 0x3412, 2);
        pulled.step();
        Check.due("RTS pulls the lower byte first", pulled.register(Check.PC), 0x1235);
    }

    private static void readByTheMap() {
        // Instructions out of a bank, the current one.
        BoardMachine m = new BoardMachine();
        m.load(0x9FFE, 0xA901, 2);
        Check.write(m, 0xA020, 1);
        m.load(0x9FFE, 0xA902, 2);
        m.set(Check.PC, 0x9FFE);
        m.step();
        Check.due("LDA # out of bank 1", m.register(Check.A), 2);
        Check.write(m, 0xA020, 0);
        m.set(Check.PC, 0x9FFE);
        m.step();
        Check.due("LDA # out of bank 0", m.register(Check.A), 1);
        Check.due("PC is at devices", m.register(Check.PC), 0xA000);
        Check.due("a code at 0xA000 is BRK", m.step(), 7);
        // A word across the end of a bank: its upper byte is register 0 of the timers.
        BoardMachine word = Check.at(0x200, 0x6C, 0xFF, 0x9F);
        word.load(0x9FFF, 0x77, 1);
        word.step();
        Check.due("JMP to the word at 0x9FFF", word.register(Check.PC), 0x0077);
        // And one whose upper byte is the first of fixed memory.
        BoardMachine fixed = Check.at(0x200, 0x6C, 0xFF, 0xBF);
        fixed.load(0xC000, 0x77, 1);
        fixed.step();
        Check.due("JMP to the word at 0xBFFF", fixed.register(Check.PC), 0x7700);
        // Reading a counter's lower byte as a part of a word does what reading it does.
        BoardMachine ifr = Check.at(0x200, 0x6C, 0x07, 0xA0);
        Check.write(ifr, 0xA009, 0);
        ifr.set(Check.PC, 0x200);
        ifr.step();
        Check.due("bit 5 of IFR behind JMP to the word at 0xA007", ifr.count(8), 0);
    }

    private static void reads(String name, BoardMachine m, int from, int cycles) {
        m.load(from, 0x99, 1);
        Check.due(name + ": cycles", m.step(), cycles);
        Check.due(name + ": A", m.register(Check.A), 0x99);
    }

    private static BoardMachine indexed(int x, int y, int... code) {
        BoardMachine m = Check.at(0x200, code);
        m.set(Check.X, x);
        m.set(Check.Y, y);
        return m;
    }

    private static void zeroPage() {
        reads("LDA ZP 0", indexed(1, 1, 0xA5, 0), 0, 3);
        reads("LDA ZP 255", indexed(1, 1, 0xA5, 255), 255, 3);
    }

    private static void zeroPageIndexed() {
        int[][] rows = {{0xF0, 0x0F, 0xFF}, {0xF0, 0x10, 0x00}, {0xFF, 0x00, 0xFF}, {0xFF, 0x01, 0x00}, {0xFF, 0xFF, 0xFE}};
        for (int[] row : rows) {
            String name = row[0] + " + " + row[1];
            reads("LDA ZX " + name, indexed(row[1], 0, 0xB5, row[0]), row[2], 4);
            BoardMachine ldx = indexed(0, row[1], 0xB6, row[0]);
            ldx.load(row[2], 0x98, 1);
            Check.due("LDX ZY " + name, ldx.step(), 4);
            Check.due("X", ldx.register(Check.X), 0x98);
            BoardMachine stx = indexed(0x97, row[1], 0x96, row[0]);
            Check.due("STX ZY " + name, stx.step(), 4);
            Check.due("written", stx.look(row[2]), 0x97);
            Check.due("not written at 0x100 and more", stx.look(row[2] + 256), 0);
            BoardMachine inc = indexed(row[1], 0, 0xF6, row[0]);
            inc.load(row[2], 0x40, 1);
            Check.due("INC ZX " + name, inc.step(), 6);
            Check.due("written", inc.look(row[2]), 0x41);
        }
    }

    private static void absolute() {
        reads("LDA ABS 0", indexed(1, 1, 0xAD, 0, 0), 0, 4);
        reads("LDA ABS 255", indexed(1, 1, 0xAD, 255, 0), 255, 4);
        reads("LDA ABS 256", indexed(1, 1, 0xAD, 0, 1), 256, 4);
        reads("LDA ABS 65535", indexed(1, 1, 0xAD, 255, 255), 65535, 4);
    }

    private static void absoluteIndexed() {
        // w, the index, the address, whether their upper bytes differ.
        int[][] rows = {
            {0x12F0, 0x00, 0x12F0, 0}, {0x12F0, 0x0F, 0x12FF, 0}, {0x12F0, 0x10, 0x1300, 1}, {0x1200, 0xFF, 0x12FF, 0},
            {0x1201, 0xFF, 0x1300, 1}, {0x12FF, 0x00, 0x12FF, 0}, {0x12FF, 0x01, 0x1300, 1}, {0xFF00, 0xFF, 0xFFFF, 0},
            {0xFF01, 0xFF, 0x0000, 1}, {0xFFFF, 0x00, 0xFFFF, 0}, {0xFFFF, 0x01, 0x0000, 1}, {0xFFFF, 0xFF, 0x00FE, 1},
        };
        for (int[] row : rows) {
            int low = row[0] & 255;
            int high = row[0] >> 8;
            String name = row[0] + " + " + row[1];
            reads("LDA AX " + name, indexed(row[1], 0, 0xBD, low, high), row[2], 4 + row[3]);
            reads("LDA AY " + name, indexed(0, row[1], 0xB9, low, high), row[2], 4 + row[3]);
        }
        for (int code : new int[] {0x1D, 0x3D, 0x5D, 0x7D, 0xBD, 0xDD, 0xFD, 0xBC, 0x3C}) {
            Check.due("code " + code + ", not crossing", indexed(0x0F, 0x10, code, 0xF0, 0x12).step(), 4);
            Check.due("code " + code + ", crossing", indexed(0x10, 0x0F, code, 0xF0, 0x12).step(), 5);
        }
        for (int code : new int[] {0x19, 0x39, 0x59, 0x79, 0xB9, 0xD9, 0xF9, 0xBE}) {
            Check.due("code " + code + ", not crossing", indexed(0x10, 0x0F, code, 0xF0, 0x12).step(), 4);
            Check.due("code " + code + ", crossing", indexed(0x0F, 0x10, code, 0xF0, 0x12).step(), 5);
        }
        crossingIsForgotten();
    }

    /** A step that took the cycle more leaves none for the next. */
    private static void crossingIsForgotten() {
        BoardMachine m = indexed(0x10, 0, 0xBD, 0xF0, 0x12, 0xA5, 0x40, 0xAD, 0x40, 0x00, 0xA9, 0x01);
        int[] want = {5, 3, 4, 2};
        for (int cycles : want) {
            Check.due("cycles of one step behind another", m.step(), cycles);
        }
    }

    private static void indexedIndirect() {
        // b, X, where the word's bytes lie.
        int[][] rows = {{0x40, 0, 0x40, 0x41}, {0xF0, 0x0E, 0xFE, 0xFF}, {0xF0, 0x0F, 0xFF, 0x00}, {0xF0, 0x10, 0x00, 0x01},
            {0xFF, 0xFF, 0xFE, 0xFF}, {0xFF, 0x01, 0x00, 0x01}};
        for (int[] row : rows) {
            BoardMachine lda = indexed(row[1], 0x77, 0xA1, row[0]);
            lda.load(row[2], 0x34, 1);
            lda.load(row[3], 0x12, 1);
            reads("LDA IX " + row[0] + " + " + row[1], lda, 0x1234, 6);
            BoardMachine sta = indexed(row[1], 0x77, 0x81, row[0]);
            sta.load(row[2], 0x34, 1);
            sta.load(row[3], 0x12, 1);
            sta.set(Check.A, 0x98);
            Check.due("STA IX " + row[0] + " + " + row[1], sta.step(), 6);
            Check.due("written", sta.look(0x1234), 0x98);
        }
    }

    private static void indirectIndexed() {
        int[][] rows = {{0x12F0, 0x0F, 0x12FF, 0}, {0x12F0, 0x10, 0x1300, 1}, {0x1200, 0xFF, 0x12FF, 0},
            {0x1201, 0xFF, 0x1300, 1}, {0xFFFE, 0x01, 0xFFFF, 0}, {0xFFFF, 0x01, 0x0000, 1}, {0xFFFF, 0x00, 0xFFFF, 0}};
        for (int[] row : rows) {
            BoardMachine m = indexed(0x77, row[1], 0xB1, 0x40);
            m.load(0x40, row[0] & 255, 1);
            m.load(0x41, row[0] >> 8, 1);
            reads("LDA IY " + row[0] + " + " + row[1], m, row[2], 5 + row[3]);
        }
        for (int code : new int[] {0x11, 0x31, 0x51, 0x71, 0xB1, 0xD1, 0xF1}) {
            for (int y : new int[] {0x0F, 0x10}) {
                BoardMachine m = indexed(0, y, code, 0x40);
                m.load(0x40, 0xF012, 2);
                Check.due("code " + code + " with Y " + y, m.step(), y == 0x10 ? 6 : 5);
            }
        }
    }

    private static void indirect() {
        for (int to : new int[] {0x0080, 0x00FF, 0x0100, 0xFFFF}) {
            BoardMachine m = indexed(0x77, 0x77, 0xB2, 0x40);
            m.load(0x40, to & 255, 1);
            m.load(0x41, to >> 8, 1);
            reads("LDA IP of the word " + to, m, to, 5);
        }
    }

    private static void wordsAtB() {
        for (int b : new int[] {0xFD, 0xFE, 0xFF, 0x00}) {
            for (int code : new int[] {0xB1, 0xB2, 0xA1}) {
                BoardMachine m = indexed(0, 0, code, b);
                m.load(0x100, 0x66, 1);
                m.load(b, 0x34, 1);
                m.load(b + 1 & 255, 0x12, 1);
                m.load(0x1234, 0x99, 1);
                m.step();
                Check.due("LDA by the code " + code + " of the word at " + b, m.register(Check.A), 0x99);
            }
        }
    }
}
