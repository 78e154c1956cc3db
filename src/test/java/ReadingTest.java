/** Terms, READING and its faults 1 to 6: a method for each sentence with a boundary case. */
public final class ReadingTest {
    private static final String READING = "Terms, READING";
    private static final String FAULTS = "Terms, FAULTS";
    private static final String T_AND_C = Bits.T_OF_0 + Bits.C_OF_65;
    /** The codes of the block with full trees, and how many bytes each makes. */
    private static final String[] FULL_CODES = {"0", "10", "0", "110 10", "111 110 1", "110 1110 10"};
    private static final int[] FULL_BYTES = {1, 1, 1, 3, 5, 3};

    private ReadingTest() {
    }

    public static void main(String[] args) {
        blocksBehindOneAnother();
        notLookedAt();
        noBlockForNone();
        bitsAtAnEndOfABlock();
        bitsAtAnEndAnywhere();
        bitsAtAnEndInADistance();
        bitsAtAnEndBehindALoneSymbol();
        bitsEnough();
        notComplete();
        behindItsLengths();
        lengthAbove16();
        byTheBit();
        moreLengths();
        greaterSymbol();
        moreLengthsForC();
        distanceBeyond();
        moreThanWanted();
        behind4();
        noCodes();
        kFirst();
        thenTheTrees();
        firstComeTo();
        Check.end("ReadingTest");
    }

    private static void blocksBehindOneAnother() {
        Check.sentence(READING, "blocks, one behind the other, until there are that many");
        Bits bits = new Bits().loneBlock(2, 1, 0).shift().loneBlock(3, 3, 0);
        Reading.makes("three, not at the beginning of a byte", bits, 1, 1, 65, 3, 3, 3);
        Bits many = new Bits();
        int[] due = new int[300];
        for (int i = 0; i < 300; i++) {
            many.loneBlock(1, i % 256, 0);
            due[i] = i % 256;
        }
        Check.same("300 blocks", Reading.makes("300 blocks", many, due).told(0), 300);
    }

    private static void notLookedAt() {
        Check.sentence(READING, "(what lies behind is not looked at");
        Reading.of("codes of the block", Bits.head(9).trees(1, 1).plain(Bits.P_OF_0).plain("0 1 0 1"), 2, 0,
            Bits.head(9).trees(1, 1).plain(Bits.P_OF_0).size() + 2, 2);
        Reading.of("a block without codes", new Bits().loneBlock(2, 1, 0).number(0, 16), 2, 0, 52, 2);
        Reading.of("a block with a bad T", new Bits().loneBlock(2, 1, 0).number(1, 16).number(31, 5), 2, 0, 52, 2);
        Reading.of("a copy of too many", new Bits().loneBlock(2, 1, 0).loneBlock(1, 509, 0), 2, 0, 52, 2);
        Reading.of("half a block", new Bits().loneBlock(2, 1, 0).number(1, 4), 2, 0, 52, 2);
        Reading.of("nothing", new Bits().loneBlock(2, 1, 0).loneBlock(1, 2, 0), 3, 0, 104, 3);
        Reading.of("but K and the trees are", Bits.head(1).plain(T_AND_C).number(15, 4), 1, 3, 48, 0);
    }

    private static void noBlockForNone() {
        Check.sentence(READING, "no block for none)");
        Bits[] all = {new Bits(), new Bits().number(0, 16), new Bits().number(-1, 32), new Bits().loneBlock(1, 65, 0)};
        for (Bits bits : all) {
            ArchiveDesk desk = Reading.of("none of " + bits.bytes() + " bytes", bits, 0, 0, 0, 0);
            Check.same("blocks", desk.told(0), 0);
            Check.same("codes", desk.told(1), 0);
            Check.same("length(0, 0)", desk.length(0, 0), -1);
        }
    }

    private static void bitsAtAnEndOfABlock() {
        Check.sentence(FAULTS, "1 the bits are at an end");
        ArchiveDesk desk = Reading.of("no bits at all", new Bits(), 1, 1, 0, 0);
        Check.same("a block was begun", desk.told(0), 1);
        Reading.of("half a K", new Bits().number(0, 8), 1, 1, 8, 0);
        // Two blocks of 52 bits are 13 bytes: the third one has no bits.
        desk = Reading.of("behind a block", new Bits().loneBlock(1, 1, 0).loneBlock(1, 2, 0), 3, 1, 104, 2);
        Check.same("a third block was begun", desk.told(0), 3);
    }

    /** Cut off at every byte, at each of the eight places that its bits can have in bytes. */
    private static void bitsAtAnEndAnywhere() {
        Check.sentence(FAULTS, "1 the bits are at an end");
        for (int shifts = 0; shifts < 8; shifts++) {
            Bits bits = fullTrees(shifts);
            int[] ends = new int[FULL_CODES.length];
            for (int i = 0; i < FULL_CODES.length; i++) {
                bits.plain(FULL_CODES[i]);
                ends[i] = bits.size();
            }
            for (int n = 0; n <= bits.size() / 8; n++) {
                cut(bits, shifts, ends, n);
            }
        }
    }

    /** So many blocks of a byte, and one of six codes with all that trees can be told by. */
    private static Bits fullTrees(int shifts) {
        Bits bits = new Bits();
        for (int i = 0; i < shifts; i++) {
            bits.shift();
        }
        bits.number(6, 16).treeT(8, 2, 3, 1, 4, 5, 6, 7, 8).number(259, 9);
        // C: 5 of one bit, 30 of two, 256 and 258 of three.
        bits.plain("10 0010 0 110").number(4, 9).plain("1110 110").number(205, 9).plain("11110 11111110 11110");
        return bits.treeP(1, 2, 3, 4, 5, 6, 7, 8, 9, 10, 11, 12, 13, 13);
    }

    private static void cut(Bits bits, int shifts, int[] ends, int n) {
        ArchiveDesk desk = new ArchiveDesk();
        bits.onto(desk);
        int whole = Math.min(shifts, 8 * n / 53);
        int codes = whole;
        int made = whole;
        for (int i = 0; i < ends.length; i++) {
            if (ends[i] <= 8 * n) {
                codes++;
                made += FULL_BYTES[i];
            }
        }
        String name = "cut off behind " + n + " bytes, " + shifts + " blocks before";
        // One byte more is wanted than there are, so that the end is always come to.
        Check.same(name, desk.read(n, shifts + 15), 1);
        Check.same(name + ": blocks", desk.told(0), whole + (codes == shifts + 6 ? 2 : 1));
        Check.same(name + ": codes", desk.told(1), codes);
        Check.same(name + ": bits", desk.told(3), 8 * n);
        Check.same(name + ": made", desk.made(), made);
    }

    private static void bitsAtAnEndInADistance() {
        Check.sentence(FAULTS, "1 the bits are at an end");
        Bits bits = new Bits().loneBlock(1, 9, 0).loneBlock(1, 256, 13);
        Reading.of("no bits of it", bits, 4, 1, 104, 1);
        Reading.of("8 of 12 bits of it", bits.number(0, 8), 4, 1, 112, 1);
        // With all bits of it the next fault is come to.
        Reading.of("all bits of it", bits.number(0, 4), 4, 4, 116, 1);
    }

    /** T is of one symbol: symbols of it can be read when there are no bits, but not what is behind. */
    private static void bitsAtAnEndBehindALoneSymbol() {
        Check.sentence(FAULTS, "1 the bits are at an end");
        for (int n : new int[] {1, 2, 3, 17, 18, 20, 38, 40, 509, 510}) {
            endsHere("no bits behind symbol 1, " + n + " lengths", lone(1, n));
            endsHere("three bits behind symbol 1, " + n + " lengths", lone(1, n).number(0, 3));
            endsHere("no bits behind symbol 2, " + n + " lengths", lone(2, n));
            endsHere("eight bits behind symbol 2, " + n + " lengths", lone(2, n).number(0, 8));
        }
        endsHere("no bits of P behind a C of one symbol", Bits.head(1).plain(T_AND_C));
        endsHere("no bits of the symbol of P", Bits.head(1).plain(T_AND_C).number(0, 4));
        endsHere("no bits of the symbol of C", Bits.head(1).plain(Bits.T_OF_0).number(0, 9));
        endsHere("no bits of the symbol of T", Bits.head(1).number(0, 5));
    }

    /** There is no bit behind these, and then a fault 1. */
    private static void endsHere(String name, Bits bits) {
        Bits ended = Bits.endingWithAByte(bits);
        int before = (ended.size() - bits.size()) / 53;
        Reading.of(name, ended, before + 1, 1, ended.size(), before);
    }

    private static void bitsEnough() {
        Check.sentence(FAULTS, "1 the bits are at an end");
        for (int shifts = 0; shifts < 8; shifts++) {
            Bits bits = fullTrees(shifts);
            for (String code : FULL_CODES) {
                bits.plain(code);
            }
            Reading.of("as many as are needed", bits, shifts + 14, 0, bits.size(), shifts + 14);
        }
    }

    private static void notComplete() {
        Check.sentence(FAULTS, "2 a tree is not complete (behind its lengths)");
        Reading.of("T", Bits.head(1).treeT(1, 2).plain(Bits.C_OF_65).plain(Bits.P_OF_0), 1, 2, 27, 0);
        Reading.of("T, by which nothing is told", Bits.head(1).treeT(0, 1).plain(Bits.C_OF_65), 1, 2, 27, 0);
        Reading.of("C", Bits.head(1).trees(1, 2).plain(Bits.P_OF_0), 1, 2, Bits.head(1).trees(1, 2).size(), 0);
        Reading.of("P, by which nothing is told", Bits.head(1).plain(T_AND_C).treeP(1, 2), 1, 2, 54, 0);
        Bits second = new Bits().loneBlock(2, 8, 0).number(1, 16).treeT(1, 2);
        Reading.of("T of the second block", second, 3, 2, 79, 2);
    }

    private static void behindItsLengths() {
        Check.sentence(FAULTS, "2 a tree is not complete (behind its lengths)");
        Reading.faultAtTheLastBit("T, too much from the third on", Bits.head(1).treeT(1, 1, 1, 1, 1), 2);
        Reading.faultAtTheLastBit("T of three lengths and z", Bits.head(1).treeT(1, 1, 1), 2);
        Reading.faultAtTheLastBit("C, too much from the third on", Bits.head(1).trees(1, 1, 1, 1), 2);
        Reading.faultAtTheLastBit("P, too much from the third on", Bits.head(1).plain(T_AND_C).treeP(1, 1, 1, 1), 2);
        // Too much behind the second length, and yet the bits end first.
        Reading.of("T is cut off", Bits.head(1).plain("00111 001 001 001 00"), 1, 1, 32, 0);
    }

    private static void lengthAbove16() {
        Check.sentence(FAULTS, "or a length above 16 is told");
        Reading.of("16 in T", Bits.head(1).plain("00001 111 1111111110"), 1, 2, 34, 0);
        Reading.of("16 in T, then one more", Bits.head(1).plain("00010 111 1111111110 000"), 1, 2, 37, 0);
        Reading.of("17 in T", Bits.head(1).plain("00010 111 1111111111 0 000"), 1, 2, 34, 0);
        Reading.of("more in T", Bits.head(1).plain("00010 111 1111111111 1111111"), 1, 2, 34, 0);
        Reading.of("16 in P", Bits.head(1).plain(T_AND_C).plain("0010 111 1111111110 000"), 1, 2, 64, 0);
        Reading.of("17 in P", Bits.head(1).plain(T_AND_C).plain("0010 111 1111111111 0 000"), 1, 2, 61, 0);
        Reading.of("17 in P, at its end", Bits.head(1).plain(T_AND_C).plain("0011 001 001 111 1111111111 0"),
            1, 2, 67, 0);
    }

    private static void byTheBit() {
        Check.sentence(FAULTS, "(by the bit by which it is)");
        Reading.faultAtTheLastBit("17 in T", Bits.head(1).plain("00010 111 1111111111"), 2);
        Reading.faultAtTheLastBit("17 in T, behind z", Bits.head(1).plain("00100 001 010 000 00 111 1111111111"), 2);
        Reading.faultAtTheLastBit("17 in P", Bits.head(1).plain(T_AND_C).plain("0010 111 1111111111"), 2);
        endsHere("16 in T, and no bit 0", Bits.head(1).plain("00010 111 111111111"));
        endsHere("16 in P, and no bit 0", Bits.head(1).plain(T_AND_C).plain("0010 111 111111111"));
    }

    private static void moreLengths() {
        Check.sentence(FAULTS, "3 more lengths (told at n, before them)");
        for (int n = 20; n < 32; n++) {
            Reading.faultAtTheLastBit("T of " + n, Bits.head(1).number(n, 5), 3);
        }
        Reading.faultAtTheLastBit("C of 511", Bits.head(1).plain(Bits.T_OF_0).number(511, 9), 3);
        Reading.faultAtTheLastBit("P of 15", Bits.head(1).plain(T_AND_C).number(15, 4), 3);
        Reading.of("T of 19", Bits.head(1).number(19, 5).number(0, 3 * 16 + 2), 1, 1, 72, 0);
        Reading.of("C of 510", Bits.head(1).plain(Bits.T_OF_0).number(510, 9), 1, 2, 35, 0);
        Reading.of("P of 14", Bits.head(1).plain(T_AND_C).number(14, 4).number(0, 42), 1, 2, 90, 0);
    }

    private static void greaterSymbol() {
        Check.sentence(FAULTS, "or a greater symbol alone, than there are symbols");
        for (int symbol = 19; symbol < 32; symbol++) {
            Reading.faultAtTheLastBit(symbol + " alone in T", Bits.head(1).alone(symbol, 5), 3);
        }
        for (int symbol = 510; symbol < 512; symbol++) {
            Bits bits = Bits.head(1).plain(Bits.T_OF_0).alone(symbol, 9);
            Reading.faultAtTheLastBit(symbol + " alone in C", bits, 3);
        }
        for (int symbol = 14; symbol < 16; symbol++) {
            Reading.faultAtTheLastBit(symbol + " alone in P", Bits.head(1).plain(T_AND_C).alone(symbol, 4), 3);
        }
        Reading.makes("18 alone in T", Bits.head(1).alone(18, 5).plain(Bits.C_OF_65).plain(Bits.P_OF_0), 65);
        Reading.of("509 alone in C", new Bits().loneBlock(1, 509, 0), 1, 4, 52, 0);
        Reading.makes("13 alone in P", new Bits().loneBlock(1, 65, 13), 65);
    }

    private static Bits lone(int symbolOfT, int lengthsOfC) {
        return Bits.head(1).alone(symbolOfT, 5).number(lengthsOfC, 9);
    }

    private static void moreLengthsForC() {
        Check.sentence(FAULTS, "or more lengths for C than its n");
        // As many as n: then the tree, of lengths 0, is not complete.
        Reading.of("3 of 3", lone(1, 3).number(0, 4), 1, 2, 39, 0);
        Reading.of("18 of 18", lone(1, 18).number(15, 4), 1, 2, 39, 0);
        Reading.of("20 of 20", lone(2, 20).number(0, 9), 1, 2, 44, 0);
        Reading.of("510 of 510", lone(2, 510).number(490, 9), 1, 2, 44, 0);
        Reading.of("3 and 3 of 6", lone(1, 6).number(0, 8), 1, 2, 43, 0);
        Reading.faultAtTheLastBit("3 of 2", lone(1, 2).number(0, 4), 3);
        Reading.faultAtTheLastBit("3 of 1", lone(1, 1).number(0, 4), 3);
        Reading.faultAtTheLastBit("18 of 17", lone(1, 17).number(15, 4), 3);
        Reading.faultAtTheLastBit("20 of 19", lone(2, 19).number(0, 9), 3);
        Reading.faultAtTheLastBit("20 of 1", lone(2, 1).number(0, 9), 3);
        Reading.faultAtTheLastBit("511 of 510", lone(2, 510).number(491, 9), 3);
        Reading.faultAtTheLastBit("531 of 510", lone(2, 510).number(511, 9), 3);
        Reading.faultAtTheLastBit("3 and 3 of 5", lone(1, 5).number(0, 8), 3);
        // C would be complete, were it not for the lengths 0 that are too many.
        Bits bits = Bits.head(1).treeT(0, 1, 0, 1).number(4, 9).plain("1 1 0 0000");
        Reading.faultAtTheLastBit("two, and 3 of 2", bits, 3);
    }

    private static void distanceBeyond() {
        Check.sentence(FAULTS, "4 a distance beyond what there is");
        Reading.of("1 of 0", new Bits().loneBlock(1, 256, 0), 4, 4, 52, 0);
        Bits ended = Bits.head(1).treeT(1, 1).alone(256, 9).treeP(1, 1).plain("0");
        Reading.of("1 of 0, by the last bit there is", ended, 4, 4, 56, 0);
        Reading.of("2 of 1", new Bits().loneBlock(1, 9, 0).loneBlock(1, 256, 1), 4, 4, 104, 1);
        Reading.makes("1 of 1", new Bits().loneBlock(1, 9, 0).loneBlock(1, 256, 0), 9, 9, 9, 9);
        Reading.makes("2 of 2", new Bits().loneBlock(2, 9, 0).loneBlock(1, 256, 1), 9, 9, 9, 9, 9);
        Bits far = new Bits().loneBlock(4097, 9, 0).loneBlock(2, 256, 13);
        Reading.of("4097 of 4097, then 4101 of 4100", far.number(0, 12).number(4, 12), 8000, 4, 128, 4100);
        far = new Bits().loneBlock(7997, 9, 0).loneBlock(1, 256, 13);
        Reading.of("8192 of 7997", far.number(4095, 12), 8000, 4, 116, 7997);
        far = new Bits().loneBlock(7997, 9, 0).loneBlock(1, 256, 13).number(7997 - 4097, 12);
        Reading.of("7997 of 7997", far, 8000, 0, 116, 8000);
        far = new Bits().loneBlock(7997, 9, 0).loneBlock(1, 256, 13).number(7998 - 4097, 12);
        Reading.of("7998 of 7997", far, 8000, 4, 116, 7997);
    }

    private static void moreThanWanted() {
        Check.sentence(FAULTS, "5 more bytes by a copy than wanted");
        Bits bits = new Bits().loneBlock(1, 9, 0).loneBlock(2, 258, 0);
        Reading.of("5 of 1", bits, 2, 5, 104, 2);
        Reading.of("5 of 4", bits, 5, 5, 104, 5);
        Reading.of("5 of 5", bits, 6, 0, 104, 6);
        Reading.of("5 and 5 of 6", bits, 7, 5, 104, 7);
        Reading.of("5 and 5 of 9", bits, 10, 5, 104, 10);
        Reading.of("5 and 5 of 10", bits, 11, 0, 104, 11);
        bits = new Bits().loneBlock(7744, 9, 0).loneBlock(1, 509, 0);
        Reading.of("256 of 256, up to 8000", bits, 8000, 0, 104, 8000);
        bits = new Bits().loneBlock(7745, 9, 0).loneBlock(1, 509, 0);
        Reading.of("256 of 255, up to 8000", bits, 8000, 5, 104, 8000);
    }

    private static void behind4() {
        Check.sentence(FAULTS, "(behind 4)");
        Reading.of("2 back of 1, 256 of 1", new Bits().loneBlock(1, 9, 0).loneBlock(1, 509, 1), 2, 4, 104, 1);
        Reading.of("1 back of 0, 3 of 1", new Bits().loneBlock(1, 256, 0), 1, 4, 52, 0);
        Reading.of("1 back of 1, 256 of 1", new Bits().loneBlock(1, 9, 0).loneBlock(1, 509, 0), 2, 5, 104, 2);
        // The distance is read first, though more bytes are told than wanted before it.
        Bits cut = new Bits().loneBlock(1, 9, 0).loneBlock(1, 509, 13);
        Reading.of("the distance is cut off", cut, 2, 1, 104, 1);
    }

    private static void noCodes() {
        Check.sentence(FAULTS, "6 a block with K of 0");
        Reading.faultAtTheLastBit("the first block", Bits.head(0), 6);
        Bits second = new Bits().loneBlock(2, 9, 0).number(0, 16);
        Check.same("blocks", Reading.of("the second block", second, 3, 6, 68, 2).told(0), 2);
        Reading.makes("K of 1", Bits.head(1).plain(T_AND_C).plain(Bits.P_OF_0), 65);
    }

    private static void kFirst() {
        Check.sentence(FAULTS, "K first, then T, C, P");
        Reading.of("K of 0 and bits at an end", Bits.head(0), 1, 6, 16, 0);
        Reading.of("K of 0 and T of 31", Bits.head(0).number(31, 5), 1, 6, 16, 0);
        Reading.of("K of 0 and T not complete", Bits.head(0).treeT(1), 1, 6, 16, 0);
        Reading.of("K of 0 and good trees", Bits.head(0).plain(T_AND_C).plain(Bits.P_OF_0), 1, 6, 16, 0);
    }

    private static void thenTheTrees() {
        Check.sentence(FAULTS, "K first, then T, C, P");
        Reading.of("T not complete, C of 511", Bits.head(1).treeT(1).number(511, 9), 1, 2, 24, 0);
        Reading.of("T of 20, C not complete", Bits.head(1).number(20, 5).number(1, 9), 1, 3, 21, 0);
        Reading.of("C not complete, P of 15", Bits.head(1).alone(3, 5).number(1, 9).number(15, 4), 1, 2, 35, 0);
        Reading.of("C of 511, P not complete", Bits.head(1).plain(Bits.T_OF_0).number(511, 9).treeP(1), 1, 3, 35, 0);
        Reading.of("T not complete, P of 15", Bits.head(1).treeT(1).plain(Bits.C_OF_65).number(15, 4), 1, 2, 24, 0);
        Reading.of("T of 20, P of 15", Bits.head(1).number(20, 5).plain(Bits.C_OF_65).number(15, 4), 1, 3, 21, 0);
    }

    private static void firstComeTo() {
        Check.sentence(FAULTS, "Of several the first that is come to");
        Bits bits = Bits.head(1).plain(Bits.T_OF_0).alone(256, 9).number(15, 4);
        Reading.of("P of 15, then a copy of nothing", bits, 1, 3, 48, 0);
        bits = Bits.head(1).plain(Bits.T_OF_0).alone(256, 9).treeP(1);
        Reading.of("P not complete, then a copy of nothing", bits, 1, 2, 51, 0);
        bits = new Bits().loneBlock(2, 256, 0).number(0, 16);
        Reading.of("a copy of nothing, then K of 0", bits, 9, 4, 52, 0);
        bits = new Bits().loneBlock(1, 9, 0).loneBlock(1, 256, 0).number(0, 16);
        Reading.of("a copy of too many, then K of 0", bits, 3, 5, 104, 3);
        Reading.of("a good copy, then K of 0", bits, 5, 6, 120, 4);
        bits = Bits.head(1).plain("00011 111 1111111111 001 001");
        Reading.of("a length above 16, then not complete", bits, 1, 2, 34, 0);
        bits = lone(1, 2).plain("1111").number(15, 4);
        Reading.of("more lengths than n, then not complete", bits, 1, 3, 39, 0);
        bits = Bits.head(1).alone(19, 5).number(511, 9);
        Reading.of("19 alone, then C of 511", bits, 1, 3, 26, 0);
    }
}
