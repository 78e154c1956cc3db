/** Promise 13, length: a method for each sentence with a boundary case. */
public final class LengthTest {
    private static final int LEAST = Integer.MIN_VALUE;
    private static final int MOST = Integer.MAX_VALUE;
    private static final int[] SYMBOLS = {19, 510, 14};
    private static final String THIRTEEN = "Promise 13: length";

    private LengthTest() {
    }

    public static void main(String[] args) {
        wholeTrees();
        latestBlockRead();
        latestBlockWritten();
        latestCall();
        notRefused();
        toldInT();
        toldInC();
        toldInP();
        toldAbove16();
        aloneIs0();
        notComeTo();
        noneWithoutBlock();
        noneWithoutTree();
        noneWithoutSymbol();
        Check.end("LengthTest");
    }

    private static ArchiveDesk read(Bits bits, int size) {
        ArchiveDesk desk = new ArchiveDesk();
        desk.read(bits.onto(desk), size);
        return desk;
    }

    /** T: 0 and 1 of two bits, 4 of one. C: 1, 2, 6 and 7 of two bits. P: 0 to 2. */
    private static Bits threeTrees(int codes) {
        return Bits.head(codes).treeT(2, 2, 0, 0, 1).number(8, 9).plain("10 0 0 11 0000 0 0").treeP(2, 1, 2);
    }

    private static void wholeTrees() {
        Check.sentence(THIRTEEN, "the length of a symbol in tree 0 T, 1 C, 2 P");
        ArchiveDesk desk = Reading.makes("three trees", threeTrees(2).plain("00 11"), 1, 7);
        Reading.lengths("T", desk, 0, 2, 2, 0, 0, 1);
        Reading.lengths("C", desk, 1, 0, 2, 2, 0, 0, 0, 2, 2);
        Reading.lengths("P", desk, 2, 2, 1, 2);
        desk = new ArchiveDesk();
        desk.feed(0x00010204, 0, 0, 0, 0);
        desk.write(4);
        Reading.lengths("T written", desk, 0, 1, 0, 0, 0, 1);
        Reading.lengths("C written", desk, 1, 2, 2, 2, 0, 2);
        Reading.lengths("P written", desk, 2);
    }

    private static void latestBlockRead() {
        Check.sentence(THIRTEEN, "Of the latest block of the latest read()");
        Bits bits = threeTrees(2).plain("00 11").loneBlock(1, 5, 0).plain(threeTrees(1).plain("01").text());
        Reading.lengths("the first block", read(bits, 2), 1, 0, 2, 2, 0, 0, 0, 2, 2);
        ArchiveDesk desk = read(bits, 3);
        for (int tree = 0; tree < 3; tree++) {
            Reading.lengths("the second block", desk, tree);
        }
        desk = read(bits, 4);
        Reading.lengths("the third block: T", desk, 0, 2, 2, 0, 0, 1);
        Reading.lengths("the third block: C", desk, 1, 0, 2, 2, 0, 0, 0, 2, 2);
        Reading.lengths("the third block: P", desk, 2, 2, 1, 2);
    }

    private static void latestBlockWritten() {
        Check.sentence(THIRTEEN, "Of the latest block of the latest read() or write()");
        ArchiveDesk desk = Tapes.of(Tapes.unlike(400));
        Tapes.add(desk, 250, 251);
        desk.write(400);
        Check.yes("the first block: 0", desk.length(1, 0) > 0);
        Check.same("the first block: 250", desk.length(1, 250), 0);
        desk.write(402);
        Check.same("two blocks", desk.told(0), 2);
        Reading.lengths("T of the second block", desk, 0, 0, 0, 1, 1);
        Check.same("the second block: 0", desk.length(1, 0), 0);
        Check.same("the second block: 250", desk.length(1, 250), 1);
        Check.same("the second block: 251", desk.length(1, 251), 1);
        desk.write(401);
        Check.same("the second block, of 250 alone", desk.length(1, 250), 0);
    }

    private static void latestCall() {
        Check.sentence(THIRTEEN, "Of the latest block of the latest read() or write()");
        ArchiveDesk desk = new ArchiveDesk();
        int n = threeTrees(2).plain("00 11").onto(desk);
        desk.read(n, 2);
        Check.same("read", desk.length(1, 1), 2);
        desk.write(1);
        Check.same("written behind it", desk.length(1, 1), 0);
        desk.read(n, 2);
        Check.same("read behind it", desk.length(1, 1), 2);
        desk.read(1, 2);
        Check.same("a block cut off behind it", desk.length(1, 1), 0);
        desk.read(n, 1);
        desk.read(n, 0);
        Check.same("none read behind it", desk.length(1, 1), -1);
        desk.read(n, 1);
        desk.write(0);
        Check.same("none written behind it", desk.length(1, 1), -1);
    }

    private static void notRefused() {
        Check.sentence(THIRTEEN, "that was not refused");
        ArchiveDesk desk = read(threeTrees(2).plain("00 11"), 2);
        desk.read(1, 8001);
        desk.read(4000, 1);
        desk.read(-1, 0);
        desk.write(4001);
        desk.write(-1);
        desk.back();
        desk.clear();
        Reading.lengths("T", desk, 0, 2, 2, 0, 0, 1);
        Reading.lengths("C", desk, 1, 0, 2, 2, 0, 0, 0, 2, 2);
        Reading.lengths("P", desk, 2, 2, 1, 2);
    }

    private static void toldInT() {
        Check.sentence(THIRTEEN, "as far as they were told");
        Reading.lengths("the bits end in T", read(Bits.head(1).plain("00111 001 010 11110"), 1), 0, 1, 2, 8);
        Reading.lengths("in the second length", read(Bits.head(1).plain("00111 001 111 11111"), 1), 0, 1);
        Reading.lengths("T is not complete", read(Bits.head(1).treeT(1, 1, 1), 1), 0, 1, 1, 1);
        Reading.lengths("T of too many lengths", read(Bits.head(1).number(31, 5).number(-1, 20), 1), 0);
        Bits gap = Bits.head(1).plain("00111 001 010 011 10 110 101");
        Reading.lengths("behind a gap", read(gap, 1), 0, 1, 2, 3, 0, 0, 6, 5);
    }

    private static void toldInC() {
        Check.sentence(THIRTEEN, "as far as they were told");
        // T of symbol 5 alone: lengths of 3 without bits.
        ArchiveDesk desk = read(Bits.head(1).alone(5, 5).number(3, 9), 1);
        Reading.lengths("C is not complete", desk, 1, 3, 3, 3);
        // T: 1 and 4 of one bit; too many lengths for C behind two of them.
        desk = read(Bits.head(1).treeT(0, 1, 0, 0, 1).number(4, 9).plain("1 1 0 0000"), 1);
        Reading.lengths("more lengths than n", desk, 1, 2, 2);
        // The bits end behind the third of nine lengths: 16 + 64 + 9 + 15 bits.
        desk = read(Bits.head(1).trees(1, 2, 3, 4, 5, 6, 7, 8, 8).plain("0000 0000"), 1);
        Reading.lengths("C is complete", desk, 1, 1, 2, 3, 4, 5, 6, 7, 8, 8);
        desk.read(13, 1);
        Check.same("cut off: bits", desk.told(3), 104);
        Reading.lengths("cut off", desk, 1, 1, 2, 3);
        desk.read(14, 1);
        Reading.lengths("cut off two lengths later", desk, 1, 1, 2, 3, 4, 5);
    }

    private static void toldInP() {
        Check.sentence(THIRTEEN, "as far as they were told");
        Bits before = Bits.head(1).alone(5, 5).number(8, 9);
        ArchiveDesk desk = read(new Bits().plain(before.text()).treeP(2, 1, 3), 1);
        Reading.lengths("C is complete", desk, 1, 3, 3, 3, 3, 3, 3, 3, 3);
        Reading.lengths("P is not complete", desk, 2, 2, 1, 3);
        // 35 bits, 4, and then three lengths of three bits: the third ends with 48.
        desk = read(new Bits().plain(before.text()).plain("1110 010 001 110"), 1);
        Check.same("cut off: bits", desk.told(3), 48);
        Reading.lengths("cut off", desk, 2, 2, 1, 6);
        Reading.lengths("P of too many", read(new Bits().plain(before.text()).plain("1111 111"), 1), 2);
    }

    /** The document does not tell it: a length above 16 is none that a symbol can have. */
    private static void toldAbove16() {
        Check.sentence(THIRTEEN, "as far as they were told");
        Reading.lengths("17 in T", read(Bits.head(1).plain("00111 001 111 1111111111 0"), 1), 0, 1);
        Reading.lengths("16 in T", read(Bits.head(1).plain("00010 001 111 1111111110"), 1), 0, 1, 16);
        Bits before = Bits.head(1).plain(Bits.T_OF_0).plain(Bits.C_OF_65);
        Reading.lengths("17 in P", read(before.plain("0111 001 111 1111111111 0"), 1), 2, 1);
    }

    private static void aloneIs0() {
        Check.sentence(THIRTEEN, "(0 for a symbol alone");
        ArchiveDesk desk = read(Bits.head(1).alone(4, 5).alone(5, 9).alone(6, 4), 1);
        for (int tree = 0; tree < 3; tree++) {
            Reading.lengths("read", desk, tree);
        }
        desk = new ArchiveDesk();
        desk.fill(5, 4);
        desk.write(1);
        for (int tree = 0; tree < 3; tree++) {
            Reading.lengths("written", desk, tree);
        }
        desk.write(4);
        Check.same("P of the symbol 0 alone, for a copy from 1", desk.length(2, 0), 0);
        Check.same("C is of the byte", desk.length(1, 5), 1);
        Check.same("and of the copy", desk.length(1, 256), 1);
    }

    private static void notComeTo() {
        Check.sentence(THIRTEEN, "and in trees that were not come to)");
        String first = threeTrees(2).plain("00 11").text();
        Bits[] blocks = {
            new Bits().plain(first), new Bits().plain(first).number(1, 3), new Bits().plain(first).number(0, 16),
            new Bits().plain(first).number(1, 16).number(31, 5)};
        for (Bits bits : blocks) {
            ArchiveDesk desk = read(bits, 3);
            Check.same("the second block", desk.told(0), 2);
            for (int tree = 0; tree < 3; tree++) {
                Reading.lengths("no tree of it", desk, tree);
            }
        }
        ArchiveDesk desk = read(new Bits().plain(first).number(1, 16).treeT(1, 1, 1), 3);
        Reading.lengths("T of it", desk, 0, 1, 1, 1);
        Reading.lengths("not C", desk, 1);
        Reading.lengths("not P", desk, 2);
        desk = read(new Bits().plain(first).number(1, 16).alone(5, 5).number(3, 9), 3);
        Reading.lengths("C of it", desk, 1, 3, 3, 3);
        Reading.lengths("not P of it", desk, 2);
    }

    private static void noneWithoutBlock() {
        Check.sentence(THIRTEEN, "NONE when there is no block");
        ArchiveDesk desk = new ArchiveDesk();
        Check.same("before any", desk.length(0, 0), -1);
        desk.write(1);
        Check.same("refused", desk.length(0, 0), -1);
        desk.write(0);
        Check.same("nothing written", desk.length(1, 0), -1);
        desk.read(0, 0);
        Check.same("nothing read", desk.length(2, 0), -1);
        desk.read(0, 1);
        Check.same("a block that was only begun", desk.length(0, 0), 0);
        desk.fill(1, 3);
        desk.write(3);
        Check.same("a block", desk.length(1, 0), 0);
        desk.read(3, 0);
        Check.same("nothing read behind it", desk.length(1, 0), -1);
    }

    private static void noneWithoutTree() {
        Check.sentence(THIRTEEN, "NONE when there is no block, tree");
        ArchiveDesk desk = read(threeTrees(2).plain("00 11"), 2);
        for (int tree : new int[] {3, 4, -1, -2, LEAST, MOST}) {
            Check.same("length(" + tree + ", 0)", desk.length(tree, 0), -1);
            Check.same("length(" + tree + ", -1)", desk.length(tree, -1), -1);
        }
        Check.same("length(0, 0)", desk.length(0, 0), 2);
        Check.same("length(2, 0)", desk.length(2, 0), 2);
    }

    private static void noneWithoutSymbol() {
        Check.sentence(THIRTEEN, "or symbol");
        ArchiveDesk desk = read(threeTrees(2).plain("00 11"), 2);
        for (int tree = 0; tree < 3; tree++) {
            Check.same("the last of " + tree, desk.length(tree, SYMBOLS[tree] - 1), 0);
            for (int symbol : new int[] {SYMBOLS[tree], SYMBOLS[tree] + 1, 511, -1, LEAST, MOST}) {
                Check.same("length(" + tree + ", " + symbol + ")", desk.length(tree, symbol), -1);
            }
        }
    }
}
