/** Promise 13: length. */
public final class LengthTest {
    private static final int[] SYMBOLS = {19, 510, 14};

    private LengthTest() {
    }

    public static void main(String[] args) {
        noBlock();
        arguments();
        wholeTrees();
        asFarAsTold();
        latestBlock();
        written();
        refused();
        Check.end("LengthTest");
    }

    /** The lengths of a tree from its first symbol on; all others must be 0. */
    private static void lengths(String name, ArchiveDesk desk, int tree, int... due) {
        for (int symbol = 0; symbol < SYMBOLS[tree]; symbol++) {
            Check.same(name + ": length(" + tree + ", " + symbol + ")", desk.length(tree, symbol),
                symbol < due.length ? due[symbol] : 0);
        }
    }

    private static ArchiveDesk read(Bits bits, int size) {
        ArchiveDesk desk = new ArchiveDesk();
        desk.read(bits.onto(desk), size);
        return desk;
    }

    private static void noBlock() {
        ArchiveDesk desk = new ArchiveDesk();
        Check.same("before any", desk.length(0, 0), -1);
        desk.write(0);
        Check.same("nothing written", desk.length(1, 0), -1);
        desk.fill(1, 3);
        desk.write(3);
        Check.same("a block", desk.length(1, 0), 0);
        desk.read(3, 0);
        Check.same("nothing read", desk.length(1, 0), -1);
        desk.read(0, 1);
        Check.same("a block that was only begun", desk.length(1, 0), 0);
    }

    private static void arguments() {
        ArchiveDesk desk = read(new Bits().loneBlock(1, 1, 0), 1);
        for (int tree = 0; tree < 3; tree++) {
            Check.same("last symbol of " + tree, desk.length(tree, SYMBOLS[tree] - 1), 0);
            Check.same("behind the last of " + tree, desk.length(tree, SYMBOLS[tree]), -1);
            Check.same("before the first of " + tree, desk.length(tree, -1), -1);
            Check.same("most of " + tree, desk.length(tree, Integer.MAX_VALUE), -1);
        }
        Check.same("tree 3", desk.length(3, 0), -1);
        Check.same("tree -1", desk.length(-1, 0), -1);
        Check.same("tree least", desk.length(Integer.MIN_VALUE, 0), -1);
    }

    /** T: 0 and 1 of two bits, 4 of one. C: 1, 2, 6 and 7 of two bits. P: 0 to 2. */
    private static Bits threeTrees(int codes) {
        return new Bits().number(codes, 16).plain("00101 010 010 000 01 001")
            .number(8, 9).plain("10 0 0 11 0000 0 0")
            .plain("0011 010 001 010");
    }

    private static void wholeTrees() {
        ArchiveDesk desk = read(threeTrees(2).plain("00 11"), 2);
        Check.same("its bytes", desk.out(0) * 256 + desk.out(1), 256 + 7);
        lengths("T", desk, 0, 2, 2, 0, 0, 1);
        lengths("C", desk, 1, 0, 2, 2, 0, 0, 0, 2, 2);
        lengths("P", desk, 2, 2, 1, 2);
        desk = read(new Bits().loneBlock(1, 5, 6), 1);
        lengths("T alone", desk, 0);
        lengths("C alone", desk, 1);
        lengths("P alone", desk, 2);
    }

    private static void asFarAsTold() {
        // Lengths 1, 2 and 8, and then the bits are at an end.
        ArchiveDesk desk = read(new Bits().number(1, 16).plain("00111 001 010 11110"), 1);
        lengths("the bits end in T", desk, 0, 1, 2, 8);
        desk = read(new Bits().number(1, 16).plain("00111 001 111 11111"), 1);
        lengths("the bits end in a length", desk, 0, 1);
        desk = read(new Bits().number(1, 16).plain("00111 001 111 1111111111 0"), 1);
        lengths("a length above 16", desk, 0, 1);
        desk = read(new Bits().number(1, 16).plain("00011 001 001 001 00"), 1);
        lengths("T is not complete", desk, 0, 1, 1, 1);
        lengths("C is not come to", desk, 1);
        lengths("nor P", desk, 2);
        // T of symbol 5 alone: lengths of 3 without bits.
        desk = read(new Bits().number(1, 16).plain("00000 00101").number(3, 9), 1);
        lengths("T is alone", desk, 0);
        lengths("C is not complete", desk, 1, 3, 3, 3);
        desk = read(new Bits().number(1, 16).plain("00000 00101").number(8, 9).plain("0011 010 001"), 1);
        lengths("C is complete", desk, 1, 3, 3, 3, 3, 3, 3, 3, 3);
        lengths("P is not", desk, 2, 2, 1);
        // T: 1 and 4 of one bit; too many lengths for C behind two of them.
        desk = read(new Bits().number(1, 16).plain("00101 000 001 000 01 001").number(4, 9).plain("1 1 0 0000"), 1);
        lengths("too many lengths for C", desk, 1, 2, 2);
        desk = read(new Bits().number(1, 16).number(31, 5), 1);
        lengths("too many lengths for T", desk, 0);
    }

    private static void latestBlock() {
        Bits bits = threeTrees(2).plain("00 11").loneBlock(1, 5, 0).number(0, 16);
        lengths("the first block", read(bits, 2), 1, 0, 2, 2, 0, 0, 0, 2, 2);
        ArchiveDesk desk = read(bits, 3);
        lengths("the second block: T", desk, 0);
        lengths("the second block: C", desk, 1);
        lengths("the second block: P", desk, 2);
        bits = new Bits().loneBlock(1, 5, 0);
        for (int i = 0; i < 2; i++) {
            bits.number(1, 16).plain("00101 010 010 000 01 001").number(8, 9).plain("10 0 0 11 0000 0 0");
            bits.plain("0011 010 001 010").plain("01");
        }
        desk = read(bits, 3);
        lengths("the third block", desk, 1, 0, 2, 2, 0, 0, 0, 2, 2);
        desk = read(threeTrees(2).plain("00 11").number(0, 16), 3);
        lengths("a block without codes: T", desk, 0);
        lengths("a block without codes: C", desk, 1);
        lengths("a block without codes: P", desk, 2);
    }

    private static void written() {
        ArchiveDesk desk = new ArchiveDesk();
        for (int v : new int[] {0, 1, 2, 4}) {
            desk.fill(v, 1);
        }
        desk.write(4);
        lengths("T", desk, 0, 1, 0, 0, 0, 1);
        lengths("C", desk, 1, 2, 2, 2, 0, 2);
        lengths("P", desk, 2);
        desk.write(2);
        lengths("T alone", desk, 0);
        lengths("C", desk, 1, 1, 1);
        desk.write(1);
        lengths("C alone", desk, 1);
    }

    private static void refused() {
        ArchiveDesk desk = read(threeTrees(2).plain("00 11"), 2);
        desk.read(1, 8001);
        desk.write(4001);
        desk.clear();
        lengths("what was refused tells nothing", desk, 1, 0, 2, 2, 0, 0, 0, 2, 2);
    }
}
