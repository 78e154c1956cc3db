/** Promise 7, read: a method for each sentence with a boundary case. */
public final class ReadTest {
    private static final int LEAST = Integer.MIN_VALUE;
    private static final int MOST = Integer.MAX_VALUE;
    private static final String SEVEN = "Promise 7: read";

    private ReadTest() {
    }

    public static void main(String[] args) {
        theFirstBytes();
        theMost();
        fullTape();
        none();
        whatIsMade();
        upToTheFault();
        asManyAsAreWanted();
        refusedByN();
        refusedBySize();
        refusedOnAnEmptyTape();
        theTapeStays();
        readAgain();
        Check.end("ReadTest");
    }

    /** A desk whose tape is a block of 9 bytes 65 and a block of 9 bytes 66, and which has read 11. */
    private static ArchiveDesk readDesk() {
        ArchiveDesk desk = new ArchiveDesk();
        int n = new Bits().loneBlock(9, 65, 0).loneBlock(9, 66, 0).onto(desk);
        Check.same("bytes of two blocks", n, 13);
        Check.same("read(13, 11)", desk.read(13, 11), 0);
        return desk;
    }

    private static void theFirstBytes() {
        Check.sentence(SEVEN, "Reads so many bytes of the archive that the first n bytes of the tape are");
        ArchiveDesk desk = readDesk();
        Check.same("all bytes are enough for 18", desk.read(13, 18), 0);
        Check.same("the last byte is missing", desk.read(12, 18), 1);
        Check.same("made", desk.made(), 9);
        Check.same("7 are enough for 9", desk.read(7, 9), 0);
        Check.same("6 are not", desk.read(6, 9), 1);
        Check.same("bits", desk.told(3), 48);
        Check.same("none made", desk.made(), 0);
        desk.fill(255, 100);
        Check.same("what is behind n does not count", desk.read(13, 19), 1);
        Check.same("all bits of 13 bytes", desk.told(3), 104);
        Check.same("n of 0", desk.read(0, 1), 1);
        Check.same("no bits", desk.told(3), 0);
    }

    private static void theMost() {
        Check.sentence(SEVEN, "Reads so many bytes of the archive that the first n bytes of the tape are");
        ArchiveDesk desk = new ArchiveDesk();
        new Bits().loneBlock(65535, 200, 0).onto(desk);
        desk.fill(0, 3993);
        Check.same("read(4000, 8000)", desk.read(4000, 8000), 0);
        Check.same("made", desk.made(), 8000);
        Check.same("the last byte", desk.out(7999), 200);
        Bits bits = Bits.head(30000).trees(1, 1).plain(Bits.P_OF_0).plain("1".repeat(7999)).plain("0");
        desk = Reading.of("8000 codes of a bit", bits, 8000, 0, bits.size(), 8000);
        Check.same("8000 codes of a bit: the last but one", desk.out(7998), 1);
        Check.same("8000 codes of a bit: the last", desk.out(7999), 0);
    }

    private static void fullTape() {
        Check.sentence(SEVEN, "Reads so many bytes of the archive that the first n bytes of the tape are");
        Bits bits = new Bits();
        for (int i = 0; i < 600; i++) {
            bits.loneBlock(1, i % 256, 0);
        }
        // C of 0 to 15, four bits each: up to 31997 bits, so that three are too few for a code.
        bits.number(65535, 16).trees(4, 4, 4, 4, 4, 4, 4, 4, 4, 4, 4, 4, 4, 4, 4, 4).plain(Bits.P_OF_0);
        int made = 600;
        for (; bits.size() < 31997; made++) {
            bits.number(made % 16, 4);
        }
        ArchiveDesk desk = Reading.of("4000 bytes", bits, made, 0, 31997, made);
        Check.same("the last byte", desk.out(made - 1), (made - 1) % 16);
        Check.same("one more", desk.read(4000, made + 1), 1);
        Check.same("one more: bits", desk.told(3), 32000);
        Check.same("one more: made", desk.made(), made);
    }

    private static void none() {
        Check.sentence(SEVEN, "NONE, changing nothing, when n is not 0 .. the number of bytes, or size not 0 .. 8000");
        ArchiveDesk desk = readDesk();
        Check.same("n and size of 0 are not refused", desk.read(0, 0), 0);
        Check.same("none made", desk.made(), 0);
        Check.same("no block", desk.told(0), 0);
        Check.same("size of 0", desk.read(13, 0), 0);
        Check.same("of an empty tape", new ArchiveDesk().read(0, 0), 0);
        Check.same("of an empty tape, all", new ArchiveDesk().read(0, 8000), 1);
    }

    private static void whatIsMade() {
        Check.sentence(SEVEN, "0 (what is made is these)");
        ArchiveDesk desk = readDesk();
        Check.same("made", desk.made(), 11);
        Check.same("the first", desk.out(0), 65);
        Check.same("the ninth", desk.out(8), 65);
        Check.same("the tenth", desk.out(9), 66);
        Check.same("the last", desk.out(10), 66);
        Check.same("none behind", desk.out(11), -1);
        desk.read(13, 3);
        Check.same("fewer than before", desk.made(), 3);
        Check.same("none of those before", desk.out(3), -1);
    }

    private static void faultOf(Bits bits, int size, int fault, int... made) {
        ArchiveDesk desk = new ArchiveDesk();
        int n = bits.onto(desk);
        desk.fill(0, 30);
        desk.write(20);
        Check.same("fault " + fault, desk.read(n, size), fault);
        Check.same("fault " + fault + ": made", desk.made(), made.length);
        for (int i = 0; i < made.length; i++) {
            Check.same("fault " + fault + ": out(" + i + ")", desk.out(i), made[i]);
        }
        Check.same("fault " + fault + ": none behind", desk.out(made.length), -1);
    }

    private static void upToTheFault() {
        Check.sentence(SEVEN, "or the fault (what is made is the bytes up to it");
        faultOf(new Bits().loneBlock(2, 7, 0), 3, 1, 7, 7);
        faultOf(new Bits().loneBlock(2, 7, 0).number(1, 16).treeT(1, 2), 3, 2, 7, 7);
        faultOf(new Bits().loneBlock(2, 7, 0).number(1, 16).number(31, 5), 3, 3, 7, 7);
        faultOf(new Bits().loneBlock(2, 7, 0).loneBlock(1, 256, 2).number(0, 1), 5, 4, 7, 7);
        faultOf(new Bits().loneBlock(2, 7, 0).number(0, 16), 3, 6, 7, 7);
        faultOf(new Bits().number(0, 16), 3, 6);
        faultOf(new Bits(), 3, 1);
        faultOf(new Bits().loneBlock(1, 256, 0), 3, 4);
        // A copy that was made, and then the fault.
        faultOf(new Bits().loneBlock(1, 7, 0).loneBlock(1, 256, 0).number(0, 16), 9, 6, 7, 7, 7, 7);
    }

    private static void asManyAsAreWanted() {
        Check.sentence(SEVEN, "of a fault 5 as many as are wanted)");
        Bits bits = new Bits().loneBlock(1, 7, 0).loneBlock(1, 8, 0).loneBlock(1, 258, 1);
        faultOf(bits, 3, 5, 7, 8, 7);
        faultOf(bits, 4, 5, 7, 8, 7, 8);
        faultOf(bits, 6, 5, 7, 8, 7, 8, 7, 8);
        ArchiveDesk desk = Reading.of("the most", new Bits().loneBlock(7999, 9, 0).loneBlock(1, 509, 0),
            8000, 5, 104, 8000);
        Check.same("the last byte", desk.out(7999), 9);
        Check.same("none behind", desk.out(8000), -1);
    }

    private static void refusedByN() {
        Check.sentence(SEVEN, "NONE, changing nothing, when n is not 0 .. the number of bytes");
        ArchiveDesk desk = readDesk();
        Seen seen = Seen.of(desk);
        for (int n : new int[] {14, 15, 4000, 4001, MOST, -1, -13, LEAST}) {
            Check.same("read(" + n + ", 2) of 13", desk.read(n, 2), -1);
            Check.same("read(" + n + ", 0) of 13", desk.read(n, 0), -1);
        }
        seen.still("refused", desk);
        Check.same("read(13, 2)", desk.read(13, 2), 0);
        desk.fill(0, 1);
        Check.same("read(14, 2) of 14", desk.read(14, 2), 0);
    }

    private static void refusedBySize() {
        Check.sentence(SEVEN, "or size not 0 .. 8000");
        ArchiveDesk desk = readDesk();
        Seen seen = Seen.of(desk);
        for (int size : new int[] {8001, 8002, 65536, MOST, -1, LEAST}) {
            Check.same("read(13, " + size + ")", desk.read(13, size), -1);
            Check.same("read(0, " + size + ")", desk.read(0, size), -1);
            Check.same("read(14, " + size + ")", desk.read(14, size), -1);
        }
        seen.still("refused", desk);
        Check.same("read(13, 8000)", desk.read(13, 8000), 1);
        Check.same("read(13, 7999)", desk.read(13, 7999), 1);
    }

    private static void refusedOnAnEmptyTape() {
        Check.sentence(SEVEN, "NONE, changing nothing, when n is not 0 .. the number of bytes");
        ArchiveDesk desk = new ArchiveDesk();
        Check.same("read(1, 1)", desk.read(1, 1), -1);
        Check.same("nothing is told", desk.told(0), -1);
        desk = readDesk();
        desk.clear();
        Seen seen = Seen.of(desk);
        Check.same("read(1, 1) behind clear()", desk.read(1, 1), -1);
        Check.same("read(13, 1) behind clear()", desk.read(13, 1), -1);
        seen.still("refused", desk);
        Check.same("read(0, 1) behind clear()", desk.read(0, 1), 1);
    }

    private static void theTapeStays() {
        Check.sentence(SEVEN, "the first n bytes of the tape");
        ArchiveDesk desk = readDesk();
        int[] tape = new int[14];
        for (int i = 0; i < 14; i++) {
            tape[i] = desk.peek(i);
        }
        desk.read(13, 18);
        desk.read(13, 19);
        for (int i = 0; i < 14; i++) {
            Check.same("peek(" + i + ")", desk.peek(i), tape[i]);
        }
        Check.same("as many", desk.fill(0, 0), 13);
    }

    private static void readAgain() {
        Check.sentence(SEVEN, "0 (what is made is these), or the fault");
        // What an earlier read left in its trees and counts does not count.
        ArchiveDesk desk = new ArchiveDesk();
        int n = Bits.head(4).trees(2, 2, 2, 2).treeP(2, 2, 2, 2).plain("11 10 01 00").onto(desk);
        for (int i = 0; i < 3; i++) {
            Check.same("read, time " + i, desk.read(n, 4), 0);
            Check.same("made, time " + i, desk.made(), 4);
            Check.same("the first, time " + i, desk.out(0), 3);
            Check.same("blocks, time " + i, desk.told(0), 1);
            Check.same("codes, time " + i, desk.told(1), 4);
            Check.same("a fault between", desk.read(3, 4), 1);
        }
    }
}
