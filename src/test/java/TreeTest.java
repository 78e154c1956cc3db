import java.util.Arrays;

/** Terms, trees and blocks, told by hand and read: a method for each sentence with a boundary case. */
public final class TreeTest {
    private static final String TERMS = "Terms";
    private static final int[] DEEP_P = {1, 2, 3, 4, 5, 6, 7, 8, 9, 10, 11, 12, 13, 13};

    private TreeTest() {
    }

    public static void main(String[] args) {
        highestBitFirst();
        lengthsUpTo16();
        length0();
        completeT();
        completeC();
        completeP();
        codesByLengths();
        codesOfP();
        zerosBehind();
        oneSymbolAlone();
        blockInOrder();
        numberOfCodes();
        howManyOfT();
        howManyOfC();
        howManyOfP();
        lengthsOfThreeBits();
        gapBehindTheThird();
        gapNotTold();
        gapBeyondTheEnd();
        noGapInP();
        untilThereAreN();
        oneZero();
        someZeros();
        manyZeros();
        twoLess();
        notToldIs0();
        bytesBelow256();
        copyLengths();
        distances();
        copyOfItself();
        Check.end("TreeTest");
    }

    private static void highestBitFirst() {
        Check.sentence(TERMS, "BITS of an archive are those of its bytes, the highest one of each first");
        ArchiveDesk desk = new ArchiveDesk();
        // K 258; T 00000 00000; C 000000000 001100001; P 0000 0000.
        desk.feed(0x01020000, 0x06100000, 0, 0, 0);
        Check.same("read(7, 258)", desk.read(7, 258), 0);
        Check.same("the first", desk.out(0), 0x61);
        Check.same("the last", desk.out(257), 0x61);
        Check.same("bits", desk.told(3), 52);
        Check.same("K is 258, so no more are in the block", desk.read(20, 259), 6);
    }

    private static void lengthsUpTo16() {
        Check.sentence(TERMS, "A TREE of m SYMBOLS gives each a LENGTH, 0 (it has no code) to 16");
        int[] deep = {1, 2, 3, 4, 5, 6, 7, 8, 9, 10, 11, 12, 13, 14, 15, 16, 16};
        Bits bits = Bits.head(4).trees(deep).plain(Bits.P_OF_0);
        bits.plain("1111111111111111 1111111111111110 0 111111111111110");
        ArchiveDesk desk = Reading.makes("C of 16 bits", bits, 16, 15, 0, 14);
        Reading.lengths("C of 16 bits", desk, 1, deep);
        // By T of such lengths too: its symbol 3, a length of 1, has fifteen bits 1 and a 0.
        int[] lengths = deep.clone();
        lengths[3] = 16;
        lengths[15] = 4;
        bits = Bits.head(2).treeT(lengths).number(2, 9);
        bits.plain("1111111111111110 1111111111111110").plain(Bits.P_OF_0).plain("1 0");
        desk = Reading.makes("T of 16 bits", bits, 1, 0);
        Reading.lengths("T of 16 bits", desk, 0, lengths);
    }

    private static void length0() {
        Check.sentence(TERMS, "0 (it has no code)");
        // P: 1 and 3 of one bit; symbols 0 and 2 have no code, and are not among them.
        Bits bits = new Bits().loneBlock(1, 7, 0).loneBlock(1, 8, 0);
        bits.number(1, 16).plain(Bits.T_OF_0).alone(256, 9).treeP(0, 1, 0, 1).plain("0");
        Reading.makes("P", bits, 7, 8, 7, 8, 7);
        // T: 0 and 4 of one bit. C: 1, 3, 5 and 6 of two bits.
        bits = Bits.head(4).treeT(1, 0, 0, 0, 1).number(7, 9).plain("0 1 0 1 0 1 1").plain(Bits.P_OF_0);
        Reading.makes("T and C", bits.plain("11 10 01 00"), 6, 5, 3, 1);
    }

    private static int[] upTo(int most, int... more) {
        int[] lengths = Arrays.copyOf(new int[] {1, 2, 3, 4, 5, 6, 7, 8, 9, 10, 11, 12, 13, 14, 15, 16},
            most + more.length);
        System.arraycopy(more, 0, lengths, most, more.length);
        return lengths;
    }

    private static void notComplete(String name, Bits bits) {
        Reading.faultAtTheLastBit(name, bits, 2);
    }

    private static void completeT() {
        Check.sentence(TERMS, "COMPLETE when the sum of 2 to the - length, of those that have a code, is 1");
        notComplete("T, a code of 16 bits is missing", Bits.head(1).treeT(upTo(16)));
        Reading.makes("T of 17", Bits.head(1).treeT(upTo(16, 16)).plain(Bits.C_OF_65).plain(Bits.P_OF_0), 65);
        notComplete("T, a code of 16 bits too many", Bits.head(1).treeT(upTo(16, 16, 16)));
        notComplete("T of one length", Bits.head(1).treeT(1));
        notComplete("T of no code", Bits.head(1).treeT(0));
        notComplete("T of no code, three lengths", Bits.head(1).treeT(0, 0, 0));
        notComplete("T with a sum of 2", Bits.head(1).treeT(1, 1, 1, 1));
        Reading.makes("T of two", Bits.head(1).treeT(1, 1).plain(Bits.C_OF_65).plain(Bits.P_OF_0), 65);
    }

    private static void completeC() {
        Check.sentence(TERMS, "COMPLETE when the sum of 2 to the - length, of those that have a code, is 1");
        notComplete("C, a code of 16 bits is missing", Bits.head(1).trees(upTo(16)));
        Reading.makes("C of 17", Bits.head(1).trees(upTo(16, 16)).plain(Bits.P_OF_0).plain("0"), 0);
        notComplete("C, a code of 16 bits too many", Bits.head(1).trees(upTo(16, 16, 16)));
        notComplete("C of one length", Bits.head(1).trees(1));
        notComplete("C of no code", Bits.head(1).plain(Bits.T_OF_0).number(510, 9));
        notComplete("C with a sum of 2", Bits.head(1).trees(1, 1, 1, 1));
        // T of the symbol 3 alone: lengths of 1, without bits.
        notComplete("C with a sum of 255", Bits.head(1).plain("00000 00011").number(510, 9));
    }

    private static void completeP() {
        Check.sentence(TERMS, "COMPLETE when the sum of 2 to the - length, of those that have a code, is 1");
        String before = Bits.T_OF_0 + Bits.C_OF_65;
        notComplete("P, a code of 13 bits is missing", Bits.head(1).plain(before).treeP(upTo(13)));
        Reading.makes("P of 14", Bits.head(1).plain(before).treeP(DEEP_P), 65);
        notComplete("P, a code of 12 bits too many", Bits.head(1).plain(before).treeP(upTo(12, 12, 12)));
        notComplete("P of one length", Bits.head(1).plain(before).treeP(1));
        notComplete("P of no code", Bits.head(1).plain(before).treeP(0, 0, 0));
        notComplete("P with a sum of 2", Bits.head(1).plain(before).treeP(1, 1, 1, 1));
    }

    private static void codesByLengths() {
        Check.sentence(TERMS, "symbols by their lengths, of the same length by their numbers, get rising codes");
        Bits bits = Bits.head(4).trees(3, 1, 3, 2).plain(Bits.P_OF_0).plain("110 0 111 10");
        Reading.makes("C", bits, 0, 1, 2, 3);
        // T: 4 of one bit, 3 of two, 0 and 5 of three. C: 0 and 2 of three bits, 3 of one, 4 of two.
        bits = Bits.head(4).treeT(3, 0, 0, 2, 1, 3).number(5, 9).plain("111 110 111 10 0");
        Reading.makes("T", bits.plain(Bits.P_OF_0).plain("111 10 110 0"), 2, 4, 0, 3);
    }

    private static void codesOfP() {
        Check.sentence(TERMS, "symbols by their lengths, of the same length by their numbers, get rising codes");
        Bits bits = new Bits();
        for (int v = 10; v < 18; v++) {
            bits.loneBlock(1, v, 0);
        }
        bits.number(4, 16).plain(Bits.T_OF_0).alone(256, 9).treeP(3, 1, 3, 2);
        // From 2; from 4 and 3 and 1; from 1; from 2 and 0 and 1.
        bits.plain("0").plain("10 11").plain("110").plain("111 0");
        Reading.makes("P", bits, 10, 11, 12, 13, 14, 15, 16, 17, 16, 17, 16, 13, 14, 15, 15, 15, 15, 15, 15, 15);
    }

    private static void zerosBehind() {
        Check.sentence(TERMS, "the next one is the one before and 1, with as many 0 behind as it is longer");
        Bits bits = Bits.head(5).trees(3, 3, 1, 3, 3).plain(Bits.P_OF_0).plain("100 101 0 110 111");
        Reading.makes("two longer", bits, 0, 1, 2, 3, 4);
        bits = Bits.head(3).trees(5, 5, 5, 5, 5, 5, 5, 5, 5, 5, 5, 5, 5, 5, 5, 5, 1);
        Reading.makes("four longer", bits.plain(Bits.P_OF_0).plain("10000 0 11111"), 0, 16, 15);
        Check.sentence(TERMS, "the first one is all 0");
        bits = Bits.head(2).trees(4, 4, 4, 4, 4, 4, 4, 4, 4, 4, 4, 4, 4, 4, 4, 4);
        Reading.makes("of four bits", bits.plain(Bits.P_OF_0).plain("0000 1111"), 0, 15);
    }

    private static void oneSymbolAlone() {
        Check.sentence(TERMS, "A tree can be of ONE symbol alone, whose code has no bits");
        Bits bits = Bits.head(2).alone(3, 5).number(2, 9).plain(Bits.P_OF_0).plain("1 0");
        Reading.makes("T", bits, 1, 0);
        Reading.makes("C", new Bits().loneBlock(5, 255, 0), 255, 255, 255, 255, 255);
        bits = new Bits().loneBlock(1, 9, 0).loneBlock(2, 256, 0);
        Reading.makes("C and P", bits, 9, 9, 9, 9, 9, 9, 9);
        bits = new Bits().loneBlock(1, 8, 0).loneBlock(3, 9, 0).loneBlock(1, 256, 2).number(1, 1);
        Reading.makes("P, and the bit behind it", bits, 8, 9, 9, 9, 8, 9, 9);
    }

    private static void blockInOrder() {
        Check.sentence(TERMS, "A BLOCK is: a number K of codes (16 bits); the tree T (19 symbols); the tree C "
            + "(510 symbols); the tree P (14 symbols); and K CODES");
        // T: 0, 1, 2 and 4 of two bits. C: 5, 6, 30 and 256 of two bits. P: 0 and 1 of one bit.
        Bits bits = Bits.head(7).treeT(2, 2, 2, 0, 2).number(257, 9);
        bits.plain("01 0010  11 11  10 000000011  11  10 011001101  11").treeP(1, 1);
        bits.plain("00 01 10 01 11 1 00 11 0");
        Reading.makes("all of it", bits, 5, 6, 30, 6, 30, 6, 30, 5, 5, 5, 5);
    }

    private static void numberOfCodes() {
        Check.sentence(TERMS, "a number K of codes (16 bits)");
        Bits bits = new Bits().loneBlock(1, 1, 0).loneBlock(2, 2, 0).loneBlock(1, 3, 0);
        Reading.makes("1, 2 and 1", bits, 1, 2, 2, 3);
        ArchiveDesk desk = Reading.of("256", new Bits().loneBlock(256, 4, 0).loneBlock(1, 5, 0), 257, 0, 104, 257);
        Check.same("256: its last", desk.out(255), 4);
        Check.same("256: the next block", desk.out(256), 5);
        Reading.of("32768", new Bits().loneBlock(32768, 6, 0), 8000, 0, 52, 8000);
        Reading.of("65535", new Bits().loneBlock(65535, 6, 0), 8000, 0, 52, 8000);
        Reading.of("8000", new Bits().loneBlock(8000, 6, 0), 8000, 0, 52, 8000);
        Reading.of("7999", new Bits().loneBlock(7999, 6, 0).loneBlock(1, 5, 0), 8000, 0, 104, 8000);
    }

    private static void howManyOfT() {
        Check.sentence(TERMS, "T: how many lengths n (5 bits); 0: it is of one symbol (5 bits)");
        // T of 19 lengths: its last symbol has a code of four bits 1, and is a length of 16.
        Bits bits = Bits.head(1).trees(upTo(16, 16)).plain(Bits.P_OF_0).plain("1111111111111111");
        Reading.makes("n is 19", bits, 16);
        Reading.makes("n is 2", Bits.head(1).treeT(1, 1).plain(Bits.C_OF_65).plain(Bits.P_OF_0), 65);
        for (int symbol : new int[] {0, 1, 17, 18}) {
            bits = Bits.head(1).alone(symbol, 5).plain(Bits.C_OF_65).plain(Bits.P_OF_0);
            Reading.makes(symbol + " alone", bits, 65);
        }
        bits = Bits.head(2).alone(4, 5).number(4, 9).plain(Bits.P_OF_0).plain("11 00");
        Reading.makes("4 alone, by which C is told", bits, 3, 0);
    }

    private static void howManyOfC() {
        Check.sentence(TERMS, "C: how many lengths n (9 bits); 0: of one symbol (9 bits)");
        // T: 10 and 11 of one bit. C: 0 and 1 of eight bits, the other 508 of nine bits.
        Bits bits = Bits.head(6).plain("01100 000 000 000 11 000 000 000 000 001 001").number(510, 9);
        bits.plain("00").plain("1".repeat(508)).plain(Bits.P_OF_0);
        bits.number(0, 8).number(1, 8).number(4, 9).number(257, 9).number(258, 9).number(511, 9);
        ArchiveDesk desk = Reading.of("n is 510", bits, 4 + 3 + 256, 0, bits.size(), 263);
        int[] due = {0, 1, 2, 255, 255, 255, 255, 255};
        for (int i = 0; i < due.length; i++) {
            Check.same("n is 510: out(" + i + ")", desk.out(i), due[i]);
        }
        Check.same("n is 510: the last length", desk.length(1, 509), 9);
        Reading.makes("0 alone", new Bits().loneBlock(1, 0, 0), 0);
        Reading.makes("255 alone", new Bits().loneBlock(1, 255, 0), 255);
        Reading.of("509 alone", new Bits().loneBlock(1, 0, 0).loneBlock(1, 509, 0), 257, 0, 104, 257);
    }

    private static void howManyOfP() {
        Check.sentence(TERMS, "P likewise, with 4 bits for n (and for the one symbol)");
        Bits bits = new Bits().loneBlock(1, 1, 0).loneBlock(1, 2, 0).loneBlock(4097, 3, 0);
        bits.number(2, 16).plain(Bits.T_OF_0).alone(256, 9).treeP(DEEP_P);
        // Symbol 13, of thirteen bits 1; its bits tell 4097 and 1. Then symbol 1.
        bits.number(8191, 13).number(1, 12).plain("10");
        ArchiveDesk desk = Reading.of("n is 14", bits, 4105, 0, bits.size(), 4105);
        int[] due = {2, 3, 3, 3, 3, 3};
        for (int i = 0; i < due.length; i++) {
            Check.same("n is 14: out(" + (4099 + i) + ")", desk.out(4099 + i), due[i]);
        }
        Check.same("n is 14: the last length", desk.length(2, 13), 13);
        bits = new Bits().loneBlock(1, 1, 0).loneBlock(4096, 2, 0).loneBlock(1, 256, 13).number(0, 12);
        desk = Reading.of("13 alone", bits, 4100, 0, bits.size(), 4100);
        Check.same("13 alone: out(4097)", desk.out(4097), 1);
    }

    private static void lengthsOfThreeBits() {
        Check.sentence(TERMS, "three bits each; behind three bits that are 7 each bit 1 adds 1 to the length, "
            + "up to a bit 0");
        Bits bits = Bits.head(1).plain("00110 110 1110 11110 00 111 111111111 0 101 111 11111111 0");
        ArchiveDesk desk = Reading.of("T", bits, 1, 2, bits.size(), 0);
        Reading.lengths("T", desk, 0, 6, 7, 8, 16, 5, 15);
        bits = Bits.head(1).plain(Bits.T_OF_0).plain(Bits.C_OF_65);
        bits.plain("0110 110 1110 11110 111 111111111 0 101 111 11111111 0");
        desk = Reading.of("P", bits, 1, 2, bits.size(), 0);
        Reading.lengths("P", desk, 2, 6, 7, 8, 16, 5, 15);
    }

    private static Bits withC(String treeT) {
        return Bits.head(1).plain(treeT).plain(Bits.C_OF_65).plain(Bits.P_OF_0);
    }

    private static void gapBehindTheThird() {
        Check.sentence(TERMS, "behind the third length (if n is 3 or more) two bits z");
        Reading.makes("n is 2: no z", withC("00010 001 001"), 65);
        Reading.makes("n is 3: z", withC("00011 001 010 010 00"), 65);
        Reading.makes("n is 4: z", withC("00100 001 010 000 00 010"), 65);
        Reading.of("n is 1: no z", Bits.head(1).plain("00001 001 11"), 1, 2, 24, 0);
    }

    private static void gapNotTold() {
        Check.sentence(TERMS, "the next z lengths are 0 and not told (they count among the n");
        for (int z = 0; z < 4; z++) {
            Bits bits = Bits.head(1).number(4 + z, 5).plain("010 010 010").number(z, 2).plain("010");
            ArchiveDesk desk = Reading.makes("z is " + z, bits.plain(Bits.C_OF_65).plain(Bits.P_OF_0), 65);
            int[] due = Arrays.copyOf(new int[] {2, 2, 2}, 4 + z);
            due[3 + z] = 2;
            Reading.lengths("z is " + z, desk, 0, due);
        }
        Bits bits = Bits.head(1).number(19, 5).plain("001 010 000 11").plain("000".repeat(12)).plain("010");
        bits.plain(Bits.C_OF_65).plain(Bits.P_OF_0);
        Check.same("19 lengths, z is 3: length(0, 18)", Reading.makes("19 lengths", bits, 65).length(0, 18), 2);
    }

    private static void gapBeyondTheEnd() {
        Check.sentence(TERMS, "and may be more than are left of them)");
        for (int z = 0; z < 4; z++) {
            String gap = Integer.toBinaryString(4 + z).substring(1);
            Reading.makes("3 lengths, z is " + z, withC("00011 001 010 010" + gap), 65);
        }
        Reading.makes("4 lengths, z is 1", withC("00100 001 010 010 01"), 65);
        Reading.makes("4 lengths, z is 2", withC("00100 001 010 010 10"), 65);
        Reading.makes("4 lengths, z is 3", withC("00100 001 010 010 11"), 65);
        Reading.makes("5 lengths, z is 2", withC("00101 001 010 010 10"), 65);
        Reading.makes("5 lengths, z is 3", withC("00101 001 010 010 11"), 65);
        Reading.makes("6 lengths, z is 3", withC("00110 001 010 010 11"), 65);
    }

    private static void noGapInP() {
        Check.sentence(TERMS, "P likewise, with 4 bits for n (and for the one symbol), without z");
        String before = Bits.T_OF_0 + Bits.C_OF_65;
        Reading.makes("3 lengths", Bits.head(1).plain(before).plain("0011 001 010 010"), 65);
        Bits bits = Bits.head(1).plain(before).plain("0100 010 010 010 010");
        Reading.lengths("4 lengths", Reading.makes("4 lengths", bits, 65), 2, 2, 2, 2, 2);
    }

    private static void untilThereAreN() {
        Check.sentence(TERMS, "else symbols of T until there are n lengths");
        // T of 0 and 3, of one bit each: a symbol more would be of the bits of P.
        Bits bits = Bits.head(2).treeT(1, 0, 0, 1).number(3, 9).plain("1 0 1").plain(Bits.P_OF_0).plain("1 0");
        Reading.makes("the last of them tells a length", bits, 2, 0);
        bits = Bits.head(2).treeT(1, 0, 0, 1).number(4, 9).plain("1 0 1 0").plain(Bits.P_OF_0).plain("1 0");
        Reading.makes("the last of them tells a length 0", bits, 2, 0);
        bits = Bits.head(2).treeT(0, 1, 0, 1).number(8, 9).plain("1 1 0 0011").plain(Bits.P_OF_0).plain("1 0");
        Reading.makes("the last of them tells 6 lengths 0", bits, 1, 0);
        bits = Bits.head(2).treeT(0, 0, 1, 1).number(30, 9).plain("1 1 0 000001000").plain(Bits.P_OF_0);
        Reading.makes("the last of them tells 28 lengths 0", bits.plain("1 0"), 1, 0);
    }

    private static void oneZero() {
        Check.sentence(TERMS, "0: one length 0");
        Bits bits = Bits.head(2).treeT(1, 0, 0, 1).number(5, 9).plain("0 1 0 0 1").plain(Bits.P_OF_0);
        Reading.makes("one before, two between", bits.plain("1 0"), 4, 1);
    }

    /** Lengths of 1 for symbol 0 and for the first one behind so many lengths 0. */
    private static void zerosBetween(int symbol, int least, int width, int more) {
        int zeros = least + more;
        Bits bits = Bits.head(2).treeT(0, symbol == 1 ? 1 : 0, symbol == 2 ? 1 : 0, 1).number(zeros + 2, 9);
        bits.plain("1 0").number(more, width).plain("1").plain(Bits.P_OF_0).plain("0 1");
        String name = zeros + " lengths 0";
        int bytes = zeros + 1 < 256 ? 2 : 1 + zeros + 1 - 253;
        ArchiveDesk desk = Reading.of(name, bits, bytes, 0, bits.size(), bytes);
        Check.same(name + ": out(1)", desk.out(1), zeros + 1 < 256 ? zeros + 1 : 0);
        Check.same(name + ": before the last", desk.length(1, zeros), 0);
        Check.same(name + ": the last", desk.length(1, zeros + 1), 1);
    }

    private static void someZeros() {
        Check.sentence(TERMS, "1: 3 lengths 0, and as many more as the next 4 bits tell");
        for (int more = 0; more < 16; more++) {
            zerosBetween(1, 3, 4, more);
        }
    }

    private static void manyZeros() {
        Check.sentence(TERMS, "2: 20, and as many more as the next 9 bits tell");
        for (int more : new int[] {0, 1, 2, 7, 8, 15, 16, 234, 235, 255, 256, 487, 488}) {
            zerosBetween(2, 20, 9, more);
        }
    }

    private static void twoLess() {
        Check.sentence(TERMS, "others: a length that is 2 less");
        int[] all = upTo(16, 16);
        Bits bits = Bits.head(1).trees(all).plain(Bits.P_OF_0).plain("0");
        Reading.lengths("3 to 18", Reading.makes("3 to 18", bits, 0), 1, all);
        bits = Bits.head(2).alone(3, 5).number(2, 9).plain(Bits.P_OF_0).plain("1 0");
        Reading.lengths("3 alone", Reading.makes("3 alone", bits, 1, 0), 1, 1, 1);
        bits = Bits.head(1).alone(18, 5).number(510, 9);
        ArchiveDesk desk = Reading.of("18 alone", bits, 1, 2, bits.size(), 0);
        Check.same("18 alone: length(1, 509)", desk.length(1, 509), 16);
    }

    private static void notToldIs0() {
        Check.sentence(TERMS, "Lengths that are not told are 0");
        // All trees of the second block have fewer lengths than those of the first.
        Bits bits = Bits.head(1).trees(2, 2, 2, 2).treeP(2, 2, 2, 2).plain("11");
        bits.number(2, 16).treeT(1, 0, 0, 1).number(2, 9).plain("1 1").treeP(1, 1).plain("1 0");
        ArchiveDesk desk = Reading.makes("fewer", bits, 3, 1, 0);
        Reading.lengths("fewer: T", desk, 0, 1, 0, 0, 1);
        Reading.lengths("fewer: C", desk, 1, 1, 1);
        Reading.lengths("fewer: P", desk, 2, 1, 1);
        bits = Bits.head(1).trees(2, 2, 2, 2).treeP(2, 2, 2, 2).plain("11").loneBlock(1, 9, 0);
        desk = Reading.makes("alone", bits, 3, 9);
        for (int tree = 0; tree < 3; tree++) {
            Reading.lengths("alone", desk, tree);
        }
    }

    private static void bytesBelow256() {
        Check.sentence(TERMS, "A CODE is a symbol of C; below 256: that byte");
        for (int v : new int[] {0, 1, 127, 128, 254, 255}) {
            Reading.makes("symbol " + v, new Bits().loneBlock(1, v, 0), v);
        }
        Reading.of("symbol 256", new Bits().loneBlock(1, 256, 0), 1, 4, 52, 0);
    }

    private static void copyLengths() {
        Check.sentence(TERMS, "Others: a COPY of symbol - 253 bytes (3 and more)");
        for (int symbol : new int[] {256, 257, 300, 508, 509}) {
            int size = 1 + symbol - 253;
            Bits bits = new Bits().loneBlock(1, 7, 0).loneBlock(1, symbol, 0).loneBlock(1, 9, 0);
            ArchiveDesk desk = Reading.of("symbol " + symbol, bits, size + 1, 0, 156, size + 1);
            Check.same("symbol " + symbol + ": its last", desk.out(size - 1), 7);
            Check.same("symbol " + symbol + ": behind it", desk.out(size), 9);
        }
    }

    private static void distances() {
        Check.sentence(TERMS, "the distance is 1 for 0, otherwise 2 to the (p - 1), and the next p - 1 bits, and 1");
        for (int p = 0; p < 14; p++) {
            int least = p == 0 ? 1 : (1 << p - 1) + 1;
            // Not more than can be wanted: 8192 is a fault.
            int most = Math.min(1 << p, 7990);
            distance(p, least);
            distance(p, most);
        }
    }

    /** A byte 1, bytes 2 up to the distance, and a copy of it, which must begin with the 1. */
    private static void distance(int p, int distance) {
        Bits bits = new Bits().loneBlock(1, 1, 0);
        if (distance > 1) {
            bits.loneBlock(distance - 1, 2, 0);
        }
        bits.loneBlock(1, 256, p);
        if (p > 0) {
            bits.number(distance - 1 - (1 << p - 1), p - 1);
        }
        String name = "symbol " + p + ", distance " + distance;
        ArchiveDesk desk = Reading.of(name, bits, distance + 3, 0, bits.size(), distance + 3);
        Check.same(name + ": the first", desk.out(distance), 1);
        Check.same(name + ": the second", desk.out(distance + 1), distance == 1 ? 1 : 2);
    }

    private static void copyOfItself() {
        Check.sentence(TERMS, "Each byte of a copy is the one so far back from where it comes");
        Bits bits = new Bits().loneBlock(1, 7, 0).loneBlock(1, 8, 0).loneBlock(1, 258, 1);
        Reading.makes("5 bytes from 2", bits, 7, 8, 7, 8, 7, 8, 7);
        bits = new Bits().loneBlock(1, 6, 0).loneBlock(1, 7, 0).loneBlock(1, 8, 0).loneBlock(1, 256, 2).number(0, 1);
        Reading.makes("3 bytes from 3", bits, 6, 7, 8, 6, 7, 8);
        bits = new Bits().loneBlock(1, 6, 0).loneBlock(1, 7, 0).loneBlock(3, 8, 0).loneBlock(1, 256, 2).number(1, 1);
        Reading.makes("3 bytes from 4", bits, 6, 7, 8, 8, 8, 7, 8, 8);
        ArchiveDesk desk = Reading.of("256 bytes from 1", new Bits().loneBlock(1, 9, 0).loneBlock(1, 509, 0),
            257, 0, 104, 257);
        Check.same("the last of 256", desk.out(256), 9);
    }
}
