/** Promise 7: read, what it makes, and each of the six faults at its edges. */
public final class ReadTest {
    private static final String NO_GAP = "00";

    private ReadTest() {
    }

    public static void main(String[] args) {
        arguments();
        noBytes();
        loneTrees();
        allTrees();
        copies();
        severalBlocks();
        bitsAtAnEnd();
        treesNotComplete();
        lengthsAbove16();
        tooMany();
        tooManyForC();
        tooFar();
        tooLong();
        noCodes();
        gaps();
        deepCodes();
        Check.end("ReadTest");
    }

    private static void readOf(String name, Bits bits, int size, int fault, int bitsRead, int made) {
        ArchiveDesk desk = new ArchiveDesk();
        int n = bits.onto(desk);
        Check.same(name, desk.read(n, size), fault);
        Check.same(name + ": bits", desk.told(3), bitsRead);
        Check.same(name + ": made", desk.made(), made);
    }

    private static Bits head(int codes) {
        return new Bits().number(codes, 16);
    }

    private static void arguments() {
        ArchiveDesk desk = new ArchiveDesk();
        int n = new Bits().loneBlock(9, 65, 0).onto(desk);
        Check.same("read", desk.read(n, 2), 0);
        Check.same("n too great", desk.read(n + 1, 2), -1);
        Check.same("n below 0", desk.read(-1, 2), -1);
        Check.same("n most", desk.read(Integer.MAX_VALUE, 2), -1);
        Check.same("size below 0", desk.read(n, -1), -1);
        Check.same("size above 8000", desk.read(n, 8001), -1);
        Check.same("size most", desk.read(n, Integer.MAX_VALUE), -1);
        Check.same("nothing changed", desk.made(), 2);
        Check.same("nothing told", desk.told(1), 2);
        Check.same("the tape stays", desk.peek(1), 9);
    }

    private static void noBytes() {
        readOf("none wanted", new Bits(), 0, 0, 0, 0);
        readOf("none wanted of a bad block", new Bits().number(0, 16), 0, 0, 0, 0);
        readOf("one wanted of nothing", new Bits(), 1, 1, 0, 0);
    }

    private static void loneTrees() {
        readOf("K bytes", new Bits().loneBlock(5, 255, 0), 5, 0, 52, 5);
        readOf("fewer than K", new Bits().loneBlock(65535, 255, 0), 3, 0, 52, 3);
        readOf("the most", new Bits().loneBlock(8000, 0, 0), 8000, 0, 52, 8000);
        readOf("greatest symbols alone", head(1).number(0, 5).number(18, 5).number(0, 9).number(7, 9)
            .number(0, 4).number(13, 4), 1, 0, 52, 1);
        ArchiveDesk desk = new ArchiveDesk();
        desk.read(new Bits().loneBlock(5, 255, 0).onto(desk), 5);
        Check.same("the byte", desk.out(4), 255);
        Check.same("no more", desk.out(5), -1);
    }

    /** T: 0, 1, 2, 4 with two bits each. C: 5 and 6, 30 and 256 with two bits. P: 0 and 1. */
    private static Bits fourSymbols(int codes) {
        return head(codes).plain("00101 010 010 010 01 010")
            .number(257, 9)
            .plain("01 0010")
            .plain("11 11")
            .plain("10 000000011")
            .plain("11")
            .plain("10 011001101")
            .plain("11")
            .plain("0010 001 001");
    }

    private static void allTrees() {
        Bits bits = fourSymbols(7).plain("00 01 10 01 11 1 00 11 0");
        ArchiveDesk desk = new ArchiveDesk();
        int n = bits.onto(desk);
        Check.same("four symbols", desk.read(n, 11), 0);
        int[] due = {5, 6, 30, 6, 30, 6, 30, 5, 5, 5, 5};
        for (int i = 0; i < due.length; i++) {
            Check.same("byte " + i, desk.out(i), due[i]);
        }
        Check.same("bits", desk.told(3), bits.size());
        Check.same("C of 257", desk.length(1, 256), 2);
    }

    private static void copies() {
        // All distances by one symbol of P each: 2 to the (p - 1), the bits, and 1.
        for (int p = 0; p < 14; p++) {
            int least = p == 0 ? 1 : (1 << p - 1) + 1;
            int most = p == 0 ? 1 : 1 << p;
            for (int distance : new int[] {least, Math.min(most, 7990)}) {
                Bits bits = new Bits();
                for (int i = 0; i < distance; i++) {
                    if (i < 3 || i == distance - 1) {
                        bits.loneBlock(1, 10 + i % 200, 0);
                    } else if (i == 3) {
                        bits.loneBlock(Math.max(1, distance - 4), 99, 0);
                    }
                }
                bits.loneBlock(1, 258, p);
                bits.number(p == 0 ? 0 : distance - 1 - (1 << p - 1), Math.max(0, p - 1));
                ArchiveDesk desk = new ArchiveDesk();
                int n = bits.onto(desk);
                String name = "copy from " + distance;
                Check.same(name, desk.read(n, distance + 5), 0);
                for (int i = 0; i < 5; i++) {
                    Check.same(name + ", byte " + i, desk.out(distance + i), desk.out(i));
                }
                Check.same(name + ", first byte", desk.out(distance), 10);
            }
        }
        readOf("shortest copy", new Bits().loneBlock(1, 1, 0).loneBlock(1, 256, 0), 4, 0, 104, 4);
        readOf("longest copy", new Bits().loneBlock(1, 1, 0).loneBlock(1, 509, 0), 257, 0, 104, 257);
    }

    private static void severalBlocks() {
        Bits bits = new Bits().loneBlock(2, 1, 0).loneBlock(1, 2, 0).loneBlock(3, 3, 0).number(0, 16);
        ArchiveDesk desk = new ArchiveDesk();
        int n = bits.onto(desk);
        Check.same("three blocks", desk.read(n, 6), 0);
        int[] due = {1, 1, 2, 3, 3, 3};
        for (int i = 0; i < 6; i++) {
            Check.same("byte " + i, desk.out(i), due[i]);
        }
        Check.same("what is behind is not looked at", desk.told(0), 3);
        Check.same("one more", desk.read(n, 7), 6);
        Check.same("the blocks", desk.told(0), 4);
        Check.same("bytes up to it", desk.made(), 6);
    }

    private static void bitsAtAnEnd() {
        Bits bits = fourSymbols(400);
        for (int i = 0; i < 40; i++) {
            bits.plain("00");
        }
        ArchiveDesk desk = new ArchiveDesk();
        int all = bits.onto(desk);
        int before = fourSymbols(400).size();
        for (int n = 0; n <= all; n++) {
            int due = Math.max(0, (8 * n - before) / 2);
            Check.same("cut at " + n, desk.read(n, 400), 1);
            Check.same("cut at " + n + ": made", desk.made(), due);
            Check.same("cut at " + n + ": codes", desk.told(1), due);
            Check.same("cut at " + n + ": bits", desk.told(3), 8 * n);
        }
        // The symbol of a copy, and then no symbol of P, or too few bits behind it.
        Bits noP = new Bits().loneBlock(1, 9, 0).loneBlock(2, 256, 13);
        readOf("no bits of the distance", noP, 4, 1, 104, 1);
        readOf("too few bits of the distance", noP.number(0, 8), 4, 1, 112, 1);
    }

    private static void treesNotComplete() {
        readOf("T of one length", head(5).plain("00001 001"), 1, 2, 24, 0);
        readOf("T of no length above 0", head(5).plain("00010 000 000"), 1, 2, 27, 0);
        readOf("T with too little", head(5).plain("00011 001 010 011 00"), 1, 2, 32, 0);
        readOf("T with too much", head(5).plain("00011 001 001 001 00"), 1, 2, 32, 0);
        // T of symbol 3 alone: lengths 1 for C.
        Bits lone3 = head(5).plain("00000 00011");
        readOf("C with too little", head(5).plain("00000 00011").number(1, 9), 1, 2, 35, 0);
        readOf("C with too much", lone3.number(3, 9), 1, 2, 35, 0);
        readOf("C of lengths 0", head(5).plain("00000 00000").number(510, 9), 1, 2, 35, 0);
        Bits p = head(1).number(0, 10).number(0, 9).number(65, 9);
        readOf("P with too little, though it is not used", p.plain("0001 001"), 1, 2, 51, 0);
        readOf("P with too much", head(1).number(0, 10).number(0, 9).number(65, 9)
            .plain("0011 001 001 001"), 1, 2, 57, 0);
        readOf("T and P complete", head(1).plain("00010 001 001").number(0, 9).number(65, 9)
            .plain("0010 001 001"), 1, 0, 55, 1);
    }

    private static void lengthsAbove16() {
        readOf("17 in T", head(1).plain("00010 111 1111111111 1111"), 1, 2, 34, 0);
        readOf("16 in T is no fault by itself", head(1).plain("00001 111 1111111110"), 1, 2, 34, 0);
        readOf("16 in T, then the second length", head(1).plain("00010 111 1111111110 000"), 1, 2, 37, 0);
        readOf("17 in P", head(1).number(0, 28).plain("0010 111 1111111111 11"), 1, 2, 61, 0);
        readOf("the bits end in a length", head(1).plain("00010 111 11111"), 1, 1, 32, 0);
        readOf("7 in T", head(1).plain("00001 111 0"), 1, 2, 25, 0);
    }

    private static void tooMany() {
        readOf("T of 20", head(1).number(20, 5), 1, 3, 21, 0);
        readOf("T of 31", head(1).number(31, 5), 1, 3, 21, 0);
        readOf("T of 19", head(1).number(19, 5).number(0, 3 * 16 + 2), 1, 1, 72, 0);
        readOf("19 alone in T", head(1).number(0, 5).number(19, 5), 1, 3, 26, 0);
        readOf("C of 511", head(1).number(0, 10).number(511, 9), 1, 3, 35, 0);
        readOf("C of 510", head(1).number(0, 10).number(510, 9), 1, 2, 35, 0);
        readOf("510 alone in C", head(1).number(0, 19).number(510, 9), 1, 3, 44, 0);
        readOf("509 alone in C", new Bits().loneBlock(1, 509, 0), 1, 4, 52, 0);
        readOf("P of 15", head(1).number(0, 28).number(15, 4), 1, 3, 48, 0);
        readOf("P of 14", head(1).number(0, 28).number(14, 4).number(0, 42), 1, 2, 90, 0);
        readOf("14 alone in P", head(1).number(0, 28).number(0, 4).number(14, 4), 1, 3, 52, 0);
        readOf("13 alone in P", head(1).number(0, 28).number(0, 4).number(13, 4), 1, 0, 52, 1);
    }

    private static void tooManyForC() {
        readOf("3 and 15 into 18", head(1).plain("00000 00001").number(18, 9).plain("1111"), 1, 2, 39, 0);
        readOf("3 and 15 into 17", head(1).plain("00000 00001").number(17, 9).plain("1111"), 1, 3, 39, 0);
        readOf("3 into 2", head(1).plain("00000 00001").number(2, 9).plain("0000"), 1, 3, 39, 0);
        readOf("20 into 20", head(1).plain("00000 00010").number(20, 9).number(0, 9), 1, 2, 44, 0);
        readOf("20 into 19", head(1).plain("00000 00010").number(19, 9).number(0, 9), 1, 3, 44, 0);
        readOf("20 and 490 into 510", head(1).plain("00000 00010").number(510, 9).number(490, 9), 1, 2, 44, 0);
        readOf("20 and 511 into 510", head(1).plain("00000 00010").number(510, 9).number(511, 9), 1, 3, 44, 0);
        readOf("bits end behind symbol 2", head(1).plain("00000 00010").number(19, 9), 1, 1, 40, 0);
    }

    private static void tooFar() {
        readOf("a copy at the start", new Bits().loneBlock(1, 256, 0), 9, 4, 52, 0);
        readOf("2 back of 1", new Bits().loneBlock(1, 9, 0).loneBlock(1, 256, 1), 9, 4, 104, 1);
        readOf("2 back of 2", new Bits().loneBlock(2, 9, 0).loneBlock(1, 256, 1), 5, 0, 104, 5);
        readOf("4 comes before 5", new Bits().loneBlock(1, 9, 0).loneBlock(1, 509, 1), 2, 4, 104, 1);
        readOf("8192 back", new Bits().loneBlock(7000, 9, 0).loneBlock(1, 256, 13).number(4095, 12),
            8000, 4, 116, 7000);
    }

    private static void tooLong() {
        Bits bits = new Bits().loneBlock(1, 9, 0).loneBlock(2, 258, 0);
        readOf("5 into 4", bits, 5, 5, 104, 5);
        readOf("5 into 5", bits, 6, 0, 104, 6);
        readOf("5 into 1", bits, 2, 5, 104, 2);
        readOf("5 twice into 9", bits, 10, 5, 104, 10);
        ArchiveDesk desk = new ArchiveDesk();
        desk.read(bits.onto(desk), 5);
        Check.same("the last of it", desk.out(4), 9);
        Check.same("none behind", desk.out(5), -1);
    }

    private static void noCodes() {
        readOf("K of 0", new Bits().number(0, 16).number(-1, 32), 1, 6, 16, 0);
        readOf("K of 0 at the end of the bits", new Bits().number(0, 16), 1, 6, 16, 0);
        readOf("half a K", new Bits().number(0, 8), 1, 1, 8, 0);
        readOf("K of 0 before bad trees", new Bits().number(0, 16).number(31, 5), 1, 6, 16, 0);
    }

    /** The two bits behind the third length of T. */
    private static void gaps() {
        String tail = "000000000 001000001 0000 0000";
        readOf("3 lengths, gap of 3", head(1).plain("00011 001 010 010 11").plain(tail), 1, 0, 58, 1);
        readOf("3 lengths, gap of 0", head(1).plain("00011 001 010 010 00").plain(tail), 1, 0, 58, 1);
        readOf("4 lengths, gap of 3", head(1).plain("00100 001 010 010 11").plain(tail), 1, 0, 58, 1);
        readOf("4 lengths, gap of 1", head(1).plain("00100 001 010 010 01").plain(tail), 1, 0, 58, 1);
        readOf("5 lengths, gap of 1", head(1).plain("00101 001 010 000 01 010").plain(tail), 1, 0, 61, 1);
        readOf("2 lengths have none", head(1).plain("00010 001 001").plain(tail), 1, 0, 53, 1);
        readOf("the bits end before the gap", head(1).plain("00011 001 001 11110"), 1, 1, 32, 0);
        readOf("P has none", head(1).number(0, 19).number(65, 9).plain("0100 010 010 010 010"), 1, 0, 60, 1);
    }

    /** T with codes of 1 to 16 bits; C of two symbols, each told by a code of 16 bits. */
    private static void deepCodes() {
        Bits bits = head(2).number(17, 5);
        int[] lengths = new int[17];
        for (int i = 0; i < 17; i++) {
            lengths[i] = Math.min(i + 1, 16);
        }
        lengths[3] = 16;
        lengths[15] = 4;
        for (int i = 0; i < 17; i++) {
            bits.number(Math.min(7, lengths[i]), 3);
            if (lengths[i] >= 7) {
                bits.plain("1".repeat(lengths[i] - 7)).plain("0");
            }
            if (i == 2) {
                bits.plain(NO_GAP);
            }
        }
        // Symbol 3, a length of 1, has all bits 1 but the last; symbol 16 has all bits 1.
        bits.number(2, 9).number(65534, 16).number(65534, 16);
        bits.plain("0000 0000").plain("0 1");
        ArchiveDesk desk = new ArchiveDesk();
        int n = bits.onto(desk);
        Check.same("deep codes", desk.read(n, 2), 0);
        Check.same("deep codes: bits", desk.told(3), bits.size());
        Check.same("deep codes: first", desk.out(0), 0);
        Check.same("deep codes: second", desk.out(1), 1);
        Check.same("deep codes: a length of 16", desk.length(0, 16), 16);
    }
}
