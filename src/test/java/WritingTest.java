import java.util.Arrays;
import java.util.HashSet;
import java.util.Set;

/** Terms, WRITING, most of it bit by bit: a method for each sentence with a boundary case. */
public final class WritingTest {
    private static final String WRITING = "Terms, WRITING";
    private static final String NO_P = Bits.P_OF_0;

    private WritingTest() {
    }

    public static void main(String[] args) {
        copyOf3To256();
        asFarAsThereAreBytes();
        theLongest();
        fromTheFirstOneOn();
        distances();
        notBeyondTheFirst();
        leastDistance();
        elseTheByte();
        blocksOf400();
        copiesInBlocks();
        eachBlock();
        noSymbolInUse();
        oneInUse();
        leastWeight();
        lesserNumbers();
        nextNumber();
        mergedInP();
        howOftenMerged();
        upToTheLastOfC();
        singly();
        bySymbol1();
        nineteen();
        bySymbol2();
        rowsAtTheStart();
        treeOfTheTellers();
        upToTheLastOfTAndP();
        longLengthsOfP();
        longLengthsOfT();
        gapAsGreatAsCanBe();
        filledWith0();
        Check.end("WritingTest");
    }

    private static void writes(String name, ArchiveDesk desk, Bits due) {
        Check.same(name, desk.write(Tapes.count(desk)), due.bytes());
        Check.same(name + ": bits", desk.told(3), due.size());
        for (int i = 0; i < due.bytes(); i++) {
            Check.same(name + ": out(" + i + ")", desk.out(i), due.byteAt(i));
        }
        Check.same(name + ": none behind", desk.out(due.bytes()), -1);
    }

    private static void codes(String name, ArchiveDesk desk, int n, int codes, int copies) {
        desk.write(n);
        Check.same(name + ": codes", desk.told(1), codes);
        Check.same(name + ": copies", desk.told(2), copies);
    }

    private static void copyOf3To256() {
        Check.sentence(WRITING, "at each place the longest COPY of 3 to 256 bytes");
        codes("2 are no copy", Tapes.text("abcXabY"), 7, 7, 0);
        codes("3 are one", Tapes.text("abcXabcY"), 8, 6, 1);
        ArchiveDesk desk = new ArchiveDesk();
        desk.fill(5, 600);
        codes("1 and 255", desk, 256, 2, 1);
        Check.same("the symbol of 255", desk.length(1, 508), 1);
        codes("1 and 256", desk, 257, 2, 1);
        Check.same("the symbol of 256", desk.length(1, 509), 1);
        codes("1, 256 and 1", desk, 258, 3, 1);
        codes("1, 256, 1 and 1", desk, 259, 4, 1);
        codes("1, 256 and 3", desk, 260, 3, 2);
        codes("1, 256 and 256", desk, 513, 3, 2);
        Check.same("no other symbol", desk.length(1, 509), 1);
    }

    private static void asFarAsThereAreBytes() {
        Check.sentence(WRITING, "(as far as there are bytes)");
        ArchiveDesk desk = Tapes.text("abcdeabcdeabcde");
        codes("none left", desk, 5, 5, 0);
        codes("2 left", desk, 7, 7, 0);
        codes("3 left", desk, 8, 6, 1);
        Check.same("a copy of 3", desk.length(1, 256) > 0 ? 1 : 0, 1);
        codes("9 left", desk, 14, 6, 1);
        Check.same("a copy of 9", desk.length(1, 262) > 0 ? 1 : 0, 1);
        Check.same("none of 10", desk.length(1, 263), 0);
        desk = Tapes.of(5, 5, 5, 5);
        codes("2 left of 3", desk, 3, 3, 0);
        codes("3 left of 4", desk, 4, 2, 1);
    }

    private static void theLongest() {
        Check.sentence(WRITING, "the longest COPY");
        // abc from 5, then abcd from 9, though abc is nearer.
        ArchiveDesk desk = Tapes.text("abcdXabcYabcd");
        codes("the farther one is longer", desk, 13, 8, 2);
        Check.same("from 5", desk.length(2, 3), 1);
        Check.same("from 9", desk.length(2, 4), 1);
        // abcd from 4, though abc is farther.
        desk = Tapes.text("abcXabcdYabcdZ");
        codes("the nearer one is longer", desk, 14, 9, 2);
        Check.same("of 3", desk.length(1, 256) > 0 ? 1 : 0, 1);
        Check.same("of 4", desk.length(1, 257) > 0 ? 1 : 0, 1);
    }

    private static void fromTheFirstOneOn() {
        Check.sentence(WRITING, "from the first one on, at each place");
        // abcd first, though a byte and then bcdefg would be fewer codes behind it.
        ArchiveDesk desk = Tapes.text("abcd1bcdefg2abcdefg");
        codes("abcd, bcd and efg", desk, 19, 12, 3);
        Check.same("of 4", desk.length(1, 257) > 0 ? 1 : 0, 1);
        Check.same("of 6", desk.length(1, 259), 0);
    }

    private static void distances() {
        Check.sentence(WRITING, "from a distance of 1 to 8191");
        writes("from 1", Tapes.of(7, 7, 7, 7), Bits.head(2).plain("00100 000 010 010 00 001")
            .number(257, 9).plain("10 0100 0 11 011100100 0").plain(NO_P).plain("0 1"));
        // P is of its symbol 2 alone; a bit behind tells 4, not 3.
        writes("from 4", Tapes.of(0, 1, 2, 3, 0, 1, 2), Bits.head(5).plain("00110 000 000 010 01 001 010")
            .number(257, 9).plain("11 11 0 0 10 011101000 0").plain("0000 0010").plain("110 111 00 01 10 1"));
        // The farthest that there is on a tape of 4000 bytes: 8191 is never come to.
        ArchiveDesk desk = Tapes.text("abc");
        desk.fill(7, 3994);
        Tapes.add(desk, 'a', 'b', 'c');
        codes("from 3997", desk, 4000, 21, 17);
        Check.same("its symbol of P", desk.length(2, 12), 1);
        desk.back();
        Check.same("read again", desk.read(desk.made(), 4000), 0);
        Check.same("the last but two", desk.out(3997), 'a');
        Check.same("the last", desk.out(3999), 'c');
    }

    private static void notBeyondTheFirst() {
        Check.sentence(WRITING, "and not beyond the first byte");
        codes("from the first byte", Tapes.text("abcabc"), 6, 4, 1);
        codes("from the first byte, 1 back", Tapes.of(0, 0, 0, 0, 0), 5, 2, 1);
        codes("nothing before the first byte", Tapes.of(0, 0, 0), 3, 3, 0);
        codes("bytes 0, which is what a new row has", Tapes.of(0, 0, 0, 1), 4, 4, 0);
    }

    private static void leastDistance() {
        Check.sentence(WRITING, "of the same length the least distance");
        // Both copies are from 4; the second one could be from 8, with another symbol of P.
        writes("from 4, not 8", Tapes.of(0, 1, 2, 3, 0, 1, 2, 4, 0, 1, 2, 5),
            Bits.head(8).plain("00110 000 000 010 01 010 001").number(257, 9).plain("000000 10 011100110 11")
                .plain("0000 0010").plain("010 011 100 101  00 1  110  00 1  111"));
        ArchiveDesk desk = new ArchiveDesk();
        desk.fill(9, 600);
        desk.write(600);
        Check.same("from 1, not 256", desk.length(2, 0), 0);
        Check.same("no other symbol of P", desk.length(2, 8), 0);
    }

    private static void elseTheByte() {
        Check.sentence(WRITING, "else the byte");
        codes("two that are the same", Tapes.text("abXabYab"), 8, 8, 0);
        codes("all different", Tapes.of(Tapes.unlike(4000)), 4000, 4000, 0);
        writes("two bytes", Tapes.of(97, 97), new Bits().loneBlock(2, 97, 0));
        writes("255", Tapes.of(255), new Bits().loneBlock(1, 255, 0));
        writes("0", Tapes.of(0), new Bits().loneBlock(1, 0, 0));
    }

    private static void blocksOf400() {
        Check.sentence(WRITING, "in blocks of 400 (the last one has the rest)");
        ArchiveDesk desk = Tapes.of(Tapes.unlike(4000));
        int[] codes = {0, 1, 399, 400, 401, 799, 800, 801, 3600, 3601, 3999, 4000};
        int[] blocks = {0, 1, 1, 1, 2, 2, 2, 3, 9, 10, 10, 10};
        for (int i = 0; i < codes.length; i++) {
            desk.write(codes[i]);
            Check.same("codes of " + codes[i], desk.told(1), codes[i]);
            Check.same("blocks of " + codes[i], desk.told(0), blocks[i]);
            if (codes[i] > 0) {
                Check.same("K of the first of " + codes[i], desk.out(0) * 256 + desk.out(1), Math.min(400, codes[i]));
            }
        }
        desk.write(401);
        int bits = desk.told(3);
        int bytes = desk.back();
        Check.same("the first block", desk.read(bytes, 400), 0);
        Check.same("the rest are a block of one symbol, 52 bits", desk.told(3), bits - 52);
        Check.same("all of it", desk.read(bytes, 401), 0);
        Check.same("blocks read", desk.told(0), 2);
    }

    private static void copiesInBlocks() {
        Check.sentence(WRITING, "These are the codes, in blocks of 400");
        int[] bytes = Tapes.unlike(399);
        ArchiveDesk desk = Tapes.of(bytes);
        Tapes.add(desk, bytes[10], bytes[11], bytes[12], 250, bytes[10], bytes[11], bytes[12]);
        desk.write(402);
        Check.same("399 and a copy: codes", desk.told(1), 400);
        Check.same("399 and a copy: blocks", desk.told(0), 1);
        desk.write(403);
        Check.same("and a byte: blocks", desk.told(0), 2);
        desk.write(406);
        Check.same("and a copy from 4: blocks", desk.told(0), 2);
        Check.same("and a copy from 4: codes", desk.told(1), 402);
        Check.same("P is of it alone", desk.length(2, 2), 0);
        Check.same("C of both", desk.length(1, 256) + desk.length(1, 250), 2);
    }

    private static void eachBlock() {
        Check.sentence(WRITING, "For each block, N being how often each symbol is");
        // 400 codes; then 1, 1 and 2 times, whatever came in the block before.
        ArchiveDesk desk = Tapes.of(Tapes.unlike(400));
        Tapes.add(desk, 1, 0, 2, 0);
        desk.write(404);
        Check.same("blocks", desk.told(0), 2);
        Check.same("copies", desk.told(2), 0);
        Reading.lengths("twice, once and once", desk, 1, 1, 2, 2);
    }

    private static void noSymbolInUse() {
        Check.sentence(WRITING, "a tree with no symbol in use is of the one symbol 0");
        writes("P, no copy", Tapes.of(1, 0), Bits.head(2).plain("00000 00011").number(2, 9)
            .plain("0000 0000").plain("10"));
        Check.same("nothing at all has no block", Tapes.of().write(0), 0);
    }

    private static void oneInUse() {
        Check.sentence(WRITING, "with one in use of it");
        writes("C of 97", Tapes.of(97), new Bits().loneBlock(1, 97, 0));
        writes("C of 255, three times", Tapes.of(255, 255, 255), new Bits().loneBlock(3, 255, 0));
        // Both have a length of 1: T is of the symbol 3 alone, and tells it without bits.
        writes("T of 3", Tapes.of(0, 1), Bits.head(2).plain("00000 00011").number(2, 9).plain(NO_P).plain("01"));
        // Four with a length of 2: T is of the symbol 4 alone.
        writes("T of 4", Tapes.of(0, 1, 2, 3), Bits.head(4).plain("00000 00100").number(4, 9).plain(NO_P)
            .plain("00 01 10 11"));
        // A copy from 2: P is of the symbol 1 alone, without a bit behind.
        writes("P of 1", Tapes.of(0, 1, 0, 1, 0), Bits.head(3).plain("00101 000 000 010 00 010 001")
            .number(257, 9).plain("0 0 10 011101010 11").plain("0000 0001").plain("10 11 0"));
    }

    private static void leastWeight() {
        Check.sentence(WRITING, "the two of the least weight");
        // 9 three times, 5, 6 and 7 once.
        ArchiveDesk desk = Tapes.of(9, 9, 5, 9, 6, 7);
        desk.write(6);
        Reading.lengths("1, 1, 1 and 3", desk, 1, 0, 0, 0, 0, 0, 3, 3, 2, 0, 1);
        // 1, 2, 3 and 4 times, the rarest with the greatest number.
        desk = Tapes.of(0, 1, 0, 2, 0, 1, 2, 1, 3, 0);
        desk.write(10);
        Check.same("codes", desk.told(1), 10);
        Reading.lengths("4, 3, 2 and 1", desk, 1, 1, 2, 3, 3);
    }

    private static void lesserNumbers() {
        Check.sentence(WRITING, "(of the same weight those of the lesser numbers)");
        writes("three", Tapes.of(0, 1, 2), Bits.head(3).plain("00101 000 000 000 00 001 001")
            .number(3, 9).plain("1 1 0").plain(NO_P).plain("10 11 0"));
        // 1, 1, 2 and 2 times: what comes of the first two is behind symbols of the same weight.
        writes("symbols before merged ones", Tapes.of(2, 3, 2, 0, 3, 1), Bits.head(6).plain("00000 00100")
            .number(4, 9).plain(NO_P).plain("10 11 10 00 11 01"));
        ArchiveDesk desk = Tapes.of(4, 3, 2, 1, 0);
        desk.write(5);
        Reading.lengths("five", desk, 1, 3, 3, 2, 2, 2);
    }

    private static void nextNumber() {
        Check.sentence(WRITING, "become one, with both weights, and the next number from m on");
        // Of three pairs the first two are merged, for they have the lesser numbers.
        ArchiveDesk desk = Tapes.of(5, 4, 3, 2, 1, 0);
        desk.write(6);
        Reading.lengths("six", desk, 1, 3, 3, 3, 3, 2, 2);
        // 1 1 1 1 1 2: two pairs; then the fifth and the sixth; then the pairs.
        desk = Tapes.of(0, 1, 2, 3, 5, 4, 5);
        desk.write(7);
        Reading.lengths("six, the last twice", desk, 1, 3, 3, 3, 3, 2, 2);
        // The copy has weight 2 and a lesser number than what was merged.
        desk = Tapes.of(0, 0, 0, 0, 1, 2, 1, 2, 1);
        desk.write(9);
        Check.same("codes", desk.told(1), 5);
        Reading.lengths("a copy", desk, 1, lengthsWithCopy(2, 2, 2));
        Check.same("a copy: length(1, 256)", desk.length(1, 256), 2);
    }

    private static int[] lengthsWithCopy(int... first) {
        int[] all = new int[257];
        System.arraycopy(first, 0, all, 0, first.length);
        all[256] = 2;
        return all;
    }

    private static void mergedInP() {
        Check.sentence(WRITING, "those that come of MERGING");
        ArchiveDesk desk = Tapes.of(Tapes.unlike(64));
        int separator = 230;
        // Copies of three bytes from 64, 32, 16, 8 and 4: the symbols 6 to 2 of P, once each.
        for (int distance = 64; distance >= 4; distance /= 2) {
            for (int i = 0; i < 3; i++) {
                desk.fill(desk.peek(Tapes.count(desk) - distance), 1);
            }
            desk.fill(separator, 1);
            separator++;
        }
        desk.write(84);
        Check.same("copies", desk.told(2), 5);
        Reading.lengths("five of P", desk, 2, 0, 0, 3, 3, 2, 2, 2);
    }

    private static void howOftenMerged() {
        Check.sentence(WRITING, "a symbol's length is how often a node with it was merged");
        // Weights that double: each symbol is merged once more than the next.
        ArchiveDesk desk = Tapes.of(7, 7, 6, 7, 5, 7, 6, 4);
        desk.write(8);
        Reading.lengths("1, 1, 2 and 4", desk, 1, 0, 0, 0, 0, 3, 3, 2, 1);
        desk = Tapes.of(0, 1);
        desk.write(2);
        Reading.lengths("1 and 1", desk, 1, 1, 1);
        int[] all = new int[256];
        for (int i = 0; i < 256; i++) {
            all[i] = i;
        }
        desk = Tapes.of(all);
        desk.write(256);
        for (int symbol : new int[] {0, 1, 127, 128, 254, 255}) {
            Check.same("256 once each: length(1, " + symbol + ")", desk.length(1, symbol), 8);
        }
        desk.write(255);
        Check.same("255 once each: the last", desk.length(1, 254), 7);
        Check.same("255 once each: the first", desk.length(1, 0), 8);
        Check.same("255 once each: the last but one", desk.length(1, 253), 8);
    }

    private static void upToTheLastOfC() {
        Check.sentence(WRITING, "C is told by lengths up to the last one above 0");
        writes("0 and 1", Tapes.of(0, 1), Bits.head(2).plain("00000 00011").number(2, 9).plain(NO_P).plain("0 1"));
        writes("254 and 255", Tapes.of(254, 255), Bits.head(2).plain("00100 000 000 001 00 001")
            .number(256, 9).plain("0 011101010 1 1").plain(NO_P).plain("0 1"));
        ArchiveDesk desk = new ArchiveDesk();
        desk.fill(0, 257);
        writes("0 and 509: all 510", desk, Bits.head(2).plain("00100 000 000 001 00 001")
            .number(510, 9).plain("1 0 111101000 1").plain(NO_P).plain("0 1"));
    }

    private static void singly() {
        Check.sentence(WRITING, "1 or 2 of them singly");
        writes("1", Tapes.of(0, 2), Bits.head(2).plain("00100 001 000 000 00 001")
            .number(3, 9).plain("1 0 1").plain(NO_P).plain("0 1"));
        writes("2", Tapes.of(0, 3), Bits.head(2).plain("00100 001 000 000 00 001")
            .number(4, 9).plain("1 0 0 1").plain(NO_P).plain("0 1"));
    }

    private static void bySymbol1() {
        Check.sentence(WRITING, "3 to 18 by symbol 1");
        for (int zeros = 3; zeros <= 18; zeros++) {
            writes(zeros + "", Tapes.of(0, zeros + 1), Bits.head(2).plain("00100 000 001 000 00 001")
                .number(zeros + 2, 9).plain("1 0").number(zeros - 3, 4).plain("1").plain(NO_P).plain("0 1"));
        }
    }

    private static void nineteen() {
        Check.sentence(WRITING, "19 by symbol 0 and then 1 for the 18 others");
        writes("19", Tapes.of(0, 20), Bits.head(2).plain("00100 010 010 000 00 001")
            .number(21, 9).plain("0 10 11 1111 0").plain(NO_P).plain("0 1"));
    }

    private static void bySymbol2() {
        Check.sentence(WRITING, "20 and more by symbol 2");
        for (int zeros : new int[] {20, 21, 35, 36, 38, 40, 254}) {
            writes(zeros + "", Tapes.of(0, zeros + 1), Bits.head(2).plain("00100 000 000 001 00 001")
                .number(zeros + 2, 9).plain("1 0").number(zeros - 20, 9).plain("1").plain(NO_P).plain("0 1"));
        }
    }

    private static void rowsAtTheStart() {
        Check.sentence(WRITING, "rows of 0 by what is told above");
        String by0 = "00100 001 000 000 00 001";
        String by1 = "00100 000 001 000 00 001";
        String by2 = "00100 000 000 001 00 001";
        rowAtTheStart(1, by0, "0 1 1");
        rowAtTheStart(2, by0, "0 0 1 1");
        rowAtTheStart(3, by1, "0 0000 1 1");
        rowAtTheStart(18, by1, "0 1111 1 1");
        rowAtTheStart(19, "00100 010 010 000 00 001", "10 11 1111 0 0");
        rowAtTheStart(20, by2, "0 000000000 1 1");
        rowAtTheStart(253, by2, "0 011101001 1 1");
        // A row of 1, one of 3 and one of 19 in one tree: symbols 0 and 1 twice, 4 four times.
        writes("three rows", Tapes.of(1, 5, 25, 26), Bits.head(4).plain("00101 010 010 000 01 001")
            .number(27, 9).plain("10 0 11 0000 0 10 11 1111 0 0").plain(NO_P).plain("00 01 10 11"));
    }

    private static void rowAtTheStart(int zeros, String treeT, String lengths) {
        writes(zeros + " at the start", Tapes.of(zeros, zeros + 1), Bits.head(2).plain(treeT)
            .number(zeros + 2, 9).plain(lengths).plain(NO_P).plain("0 1"));
    }

    private static void treeOfTheTellers() {
        Check.sentence(WRITING, "T is the tree of the symbols that tell C, with their numbers of times (of the one "
            + "symbol 0 when C is of one symbol)");
        writes("C of one symbol", Tapes.of(200, 200), Bits.head(2).plain("00000 00000").alone(200, 9).plain(NO_P));
        // Symbols 3 once, 4 once, 5 twice: 5 has one bit, though the others come first.
        writes("once, once and twice", Tapes.of(0, 1, 0, 2, 0, 3, 0, 1), Bits.head(8)
            .plain("00110 000 000 000 00 010 010 001").number(4, 9).plain("10 11 0 0").plain(NO_P)
            .plain("0 10 0 110 0 111 0 10"));
    }

    private static void upToTheLastOfTAndP() {
        Check.sentence(WRITING, "T and P are told by lengths up to the last one above 0");
        // Copies from 1 and from 2: P of the symbols 0 and 1, two lengths; T of 2 and 4, five lengths.
        writes("two of P", Tapes.of(0, 0, 0, 0, 1, 2, 1, 2, 1), Bits.head(5).plain("00101 000 000 001 01 001")
            .number(257, 9).plain("1 1 1 0 011101001 1").plain("0010 001 001").plain("00  11 0  01 10  11 1"));
        // Copies from 4 and from 6: P of the symbols 2 and 3, four lengths and no z behind the third.
        writes("four of P", Tapes.of(0, 1, 2, 3, 0, 1, 2, 4, 2, 3, 0, 5),
            Bits.head(8).plain("00110 000 000 010 01 010 001").number(257, 9).plain("000000 10 011100110 11")
                .plain("0100 000 000 001 001").plain("010 011 100 101  00 0 1  110  00 1 01  111"));
    }

    /** Copies of three bytes, whose symbols of P, 2 to 10, come 1, 1, 2, 3, 5 .. times: lengths up to 8. */
    private static void longLengthsOfP() {
        Check.sentence(WRITING, "T and P are told by lengths up to the last one above 0");
        int[] times = {1, 1, 2, 3, 5, 8, 13, 21, 34};
        int[] bytes = Arrays.copyOf(Tapes.unlike(1200), 1200 + 3 * 88);
        Bits due = Bits.head(88).plain(Bits.T_OF_0).alone(256, 9)
            .plain("1011 000 000 11110 11110 1110 110 101 100 011 010 001");
        String[] codes = {"11111110", "11111111", "1111110", "111110", "11110", "1110", "110", "10", "0"};
        int place = 1200;
        for (int p = 2; p <= 10; p++) {
            for (int i = 0; i < times[p - 2]; i++) {
                // By turns an odd and an even distance: else two copies could be one.
                int distance = (1 << p) - (place + 1) % 2;
                for (int k = 0; k < 3; k++) {
                    bytes[place + k] = bytes[place + k - distance];
                }
                due.plain(codes[p - 2]).number(distance - 1, p - 1);
                place += 3;
            }
        }
        lastBlock(Tapes.of(bytes), 1200, due);
    }

    /**
     * 43 bytes: one of them 64 times, 2 of them 32 times, 3 16 times, 5 8 times, 8 twice, 24 once. So C has
     * lengths 2, 3, 4, 5, 7 and 8 for them; 40 lengths 0 stand singly, and 3 in a row. T then has the symbols
     * 0, 10, 9, 7, 6, 5, 4 and 1, which come 40, 24, 8, 5, 3, 2, 1 and 1 times: lengths up to 7.
     */
    private static void longLengthsOfT() {
        Check.sentence(WRITING, "T and P are told by lengths up to the last one above 0");
        int[] times = new int[90];
        for (int i = 0; i < 43; i++) {
            int v = i < 41 ? 2 * i : i + 43;
            times[v] = i < 1 ? 64 : i < 3 ? 32 : i < 6 ? 16 : i < 11 ? 8 : i < 19 ? 2 : 1;
        }
        ArchiveDesk desk = Tapes.of(unlike(times));
        Check.same("bytes", Tapes.count(desk), 256);
        desk.write(256);
        Check.same("codes", desk.told(1), 256);
        Bits due = Bits.head(256).plain("01011 001 1110 000 01 1110 110 101 100 000 011 010").number(86, 9);
        for (int i = 0; i < due.size() / 8; i++) {
            Check.same("out(" + i + ")", desk.out(i), due.byteAt(i));
        }
        Reading.lengths("T", desk, 0, 1, 7, 0, 0, 7, 6, 5, 4, 0, 3, 2);
    }

    /** Each byte so many times, and no three of them twice: at each place the one of which most are left. */
    private static int[] unlike(int[] times) {
        int[] left = times.clone();
        int[] bytes = new int[Arrays.stream(times).sum()];
        Set<Integer> threes = new HashSet<>();
        for (int i = 0; i < bytes.length; i++) {
            int best = -1;
            for (int v = 0; v < left.length; v++) {
                boolean unlike = i < 2 || !threes.contains(bytes[i - 2] << 16 | bytes[i - 1] << 8 | v);
                if (unlike && left[v] > 0 && (best < 0 || left[v] > left[best])) {
                    best = v;
                }
            }
            bytes[i] = Math.max(0, best);
            left[bytes[i]]--;
            if (i >= 2) {
                threes.add(bytes[i - 2] << 16 | bytes[i - 1] << 8 | bytes[i]);
            }
        }
        return bytes;
    }

    /** Behind the blocks of so many bytes comes a block of these bits, and nothing more. */
    private static void lastBlock(ArchiveDesk desk, int before, Bits due) {
        int all = Tapes.count(desk);
        desk.write(all);
        int bits = desk.told(3);
        int bytes = desk.back();
        Check.same("the blocks before", desk.read(bytes, before), 0);
        int start = desk.told(3);
        Check.same("bits of the block", bits - start, due.size());
        Bits found = new Bits();
        for (int i = start / 8; i < bytes; i++) {
            found.number(desk.peek(i), 8);
        }
        Check.yes("the block " + due.text(), found.text().startsWith(due.text(), start % 8));
        Check.same("all of it", desk.read(bytes, all), 0);
    }

    /** So many bytes, each once, and one left out before the last: codes of the same length. */
    private static void gapOfT(int bytes, int length, String tree) {
        Bits due = Bits.head(bytes).plain(tree).number(bytes + 1, 9).plain("1".repeat(bytes - 1)).plain("0 1").plain(NO_P);
        ArchiveDesk desk = new ArchiveDesk();
        for (int i = 0; i < bytes; i++) {
            desk.fill(i < bytes - 1 ? i : bytes, 1);
            due.number(i, length);
        }
        writes("T of 0 and " + (length + 2), desk, due);
    }

    private static void gapAsGreatAsCanBe() {
        Check.sentence(WRITING, "z is as great as can be (3 at most, lengths behind the last one being 0)");
        // The last one is the symbol of a length, 3 or more: none behind it is ever among the z.
        gapOfT(2, 1, "00100 001 000 000 00 001");
        gapOfT(4, 2, "00101 001 000 000 01 001");
        gapOfT(8, 3, "00110 001 000 000 10 001");
        gapOfT(16, 4, "00111 001 000 000 11 001");
        gapOfT(32, 5, "01000 001 000 000 11 000 001");
        gapOfT(64, 6, "01001 001 000 000 11 000 000 001");
    }

    private static void filledWith0() {
        Check.sentence(WRITING, "The last byte is filled with bits 0");
        ArchiveDesk desk = Tapes.of(0, 20, 20);
        Check.same("64 bits, none fill", desk.write(2), 8);
        Check.same("its last byte", desk.out(7), 1);
        // The last code, 1, is the 65th bit.
        Check.same("65 bits, seven fill", desk.write(3), 9);
        Check.same("its last byte", desk.out(8), 128);
        desk = Tapes.of(1, 0, 1, 1, 1, 1);
        Check.same("45 bits, three fill", desk.write(2), 6);
        Check.same("its last byte", desk.out(5), 16);
        // What was made before does not show in what fills.
        desk = new ArchiveDesk();
        desk.read(new Bits().loneBlock(300, 255, 0).onto(desk), 300);
        Check.same("52 bits, four fill", desk.write(1), 7);
        Check.same("its last byte", desk.out(6), 0);
    }
}
