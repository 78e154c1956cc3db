/** Promise 12, told: a method for each sentence with a boundary case. */
public final class ToldTest {
    private static final int LEAST = Integer.MIN_VALUE;
    private static final int MOST = Integer.MAX_VALUE;
    private static final String TWELVE = "Promise 12: told";

    private ToldTest() {
    }

    public static void main(String[] args) {
        theLatest();
        notRefused();
        blocksBegun();
        codes();
        copiesAmongThem();
        fault4();
        fault5();
        fault1InACopy();
        bitsRead();
        bitsOfAFault();
        bitsOfFault1();
        bitsWritten();
        noneBeforeAny();
        noneForOthers();
        Check.end("ToldTest");
    }

    private static void told(String name, ArchiveDesk desk, int blocks, int codes, int copies, int bits) {
        Check.same(name + ": told(0)", desk.told(0), blocks);
        Check.same(name + ": told(1)", desk.told(1), codes);
        Check.same(name + ": told(2)", desk.told(2), copies);
        Check.same(name + ": told(3)", desk.told(3), bits);
    }

    private static ArchiveDesk read(Bits bits, int size) {
        ArchiveDesk desk = new ArchiveDesk();
        desk.read(bits.onto(desk), size);
        return desk;
    }

    private static void theLatest() {
        Check.sentence(TWELVE, "Of the latest read() or write() that was not refused");
        ArchiveDesk desk = new ArchiveDesk();
        int n = new Bits().loneBlock(2, 65, 0).loneBlock(9, 256, 0).onto(desk);
        desk.read(n, 8);
        told("read", desk, 2, 4, 2, 104);
        desk.write(1);
        told("written behind it", desk, 1, 1, 0, 52);
        desk.read(n, 5);
        told("read behind it", desk, 2, 3, 1, 104);
        desk.read(n, 0);
        told("none read behind it", desk, 0, 0, 0, 0);
        desk.read(n, 5);
        desk.write(0);
        told("none written behind it", desk, 0, 0, 0, 0);
    }

    private static void notRefused() {
        Check.sentence(TWELVE, "Of the latest read() or write() that was not refused");
        ArchiveDesk desk = new ArchiveDesk();
        int n = new Bits().loneBlock(2, 65, 0).loneBlock(9, 256, 0).onto(desk);
        desk.read(n, 8);
        desk.read(n + 1, 2);
        desk.read(-1, 2);
        desk.read(n, -1);
        desk.read(n, 8001);
        desk.write(n + 1);
        desk.write(-1);
        told("refused", desk, 2, 4, 2, 104);
        desk.clear();
        desk.fill(1, 4000);
        desk.fill(1, 1);
        desk.poke(0, 7);
        desk.back();
        told("the tape is another one", desk, 2, 4, 2, 104);
    }

    private static void blocksBegun() {
        Check.sentence(TWELVE, "what = 0 blocks that were begun");
        Bits bits = new Bits().loneBlock(1, 65, 0).loneBlock(2, 66, 0).number(0, 16);
        for (int size = 0; size < 5; size++) {
            int[] due = {0, 1, 2, 2, 3};
            Check.same(size + " wanted", read(bits, size).told(0), due[size]);
        }
        Check.same("of no bits", read(new Bits(), 1).told(0), 1);
        Check.same("half a K", read(new Bits().number(1, 8), 1).told(0), 1);
        Check.same("T is not complete", read(Bits.head(1).treeT(1), 1).told(0), 1);
        Check.same("behind the last bit", read(new Bits().loneBlock(1, 1, 0).loneBlock(1, 1, 0), 3).told(0), 3);
        ArchiveDesk desk = new ArchiveDesk();
        desk.fill(65, 4000);
        Check.same("none written", desk.write(0), desk.told(0));
        desk.write(1);
        Check.same("one written", desk.told(0), 1);
    }

    private static void codes() {
        Check.sentence(TWELVE, "1 codes");
        Bits bits = new Bits().loneBlock(3, 65, 0).loneBlock(2, 66, 0);
        for (int size = 0; size < 6; size++) {
            Check.same(size + " wanted", read(bits, size).told(1), size);
        }
        Check.same("one too many wanted", read(bits, 6).told(1), 5);
        Check.same("the most", read(new Bits().loneBlock(65535, 65, 0), 8000).told(1), 8000);
        ArchiveDesk desk = new ArchiveDesk();
        desk.feed(0x01020304, 0x05060708, 0x090A0B0C, 0x0D0E0F10, 0x11121314);
        for (int n = 0; n <= 20; n++) {
            desk.write(n);
            Check.same(n + " written", desk.told(1), n);
        }
    }

    private static void copiesAmongThem() {
        Check.sentence(TWELVE, "2 copies among them");
        Bits bits = new Bits().loneBlock(2, 65, 0).loneBlock(9, 256, 0);
        told("no copy", read(bits, 2), 1, 2, 0, 52);
        told("one", read(bits, 5), 2, 3, 1, 104);
        told("two", read(bits, 8), 2, 4, 2, 104);
        told("bytes again", read(new Bits().loneBlock(1, 1, 0).loneBlock(1, 300, 0).loneBlock(2, 2, 0), 50),
            3, 4, 1, 156);
        ArchiveDesk desk = new ArchiveDesk();
        desk.fill(97, 4000);
        desk.write(3);
        told("3 written", desk, 1, 3, 0, 52);
        desk.write(4);
        told("4 written", desk, 1, 2, 1, 73 + 3);
        desk.write(4000);
        told("4000 written", desk, 1, 17, 16, 110);
    }

    private static void fault4() {
        Check.sentence(TWELVE, "(of a fault 4 neither");
        told("3 back of 2", read(new Bits().loneBlock(2, 65, 0).loneBlock(9, 256, 2).number(0, 1), 9), 2, 2, 0, 105);
        told("1 back of 0", read(new Bits().loneBlock(1, 256, 0), 9), 1, 0, 0, 52);
        Bits bits = new Bits().loneBlock(1, 65, 0).loneBlock(1, 256, 0).loneBlock(1, 256, 3).number(0, 2);
        told("5 back of 4, behind a good copy", read(bits, 9), 3, 2, 1, 158);
    }

    private static void fault5() {
        Check.sentence(TWELVE, "of a fault 5 both)");
        Bits bits = new Bits().loneBlock(2, 65, 0).loneBlock(9, 256, 1);
        told("3 of 1", read(bits, 3), 2, 3, 1, 104);
        told("3 of 2", read(bits, 4), 2, 3, 1, 104);
        told("3 of 3, which is none", read(bits, 5), 2, 3, 1, 104);
        told("3 and 3 of 4", read(bits, 6), 2, 4, 2, 104);
    }

    /** The document does not tell it: a copy whose distance is cut off is no code yet. */
    private static void fault1InACopy() {
        Check.sentence(TWELVE, "1 codes, 2 copies among them");
        told("no bits of the distance", read(new Bits().loneBlock(2, 65, 0).loneBlock(9, 256, 13), 9), 2, 2, 0, 104);
    }

    private static void bitsRead() {
        Check.sentence(TWELVE, "3 bits read");
        Bits bits = Bits.head(40).trees(1, 2, 3, 3).plain(Bits.P_OF_0);
        int before = bits.size();
        bits.plain("0 10 110 111 0");
        int[] ends = {0, before + 1, before + 3, before + 6, before + 9, before + 10};
        for (int size = 0; size < ends.length; size++) {
            Check.same(size + " wanted", read(bits, size).told(3), ends[size]);
        }
        Check.same("codes without bits", read(new Bits().loneBlock(9, 65, 0), 9).told(3), 52);
    }

    private static void bitsOfAFault() {
        Check.sentence(TWELVE, "3 bits read");
        Check.same("2, behind the lengths", read(Bits.head(1).treeT(1).number(0, 20), 3).told(3), 24);
        Check.same("2, above 16", read(Bits.head(1).plain("00010 111 1111111111").number(0, 20), 3).told(3), 34);
        Check.same("3, at n", read(Bits.head(1).number(31, 5).number(0, 20), 3).told(3), 21);
        Check.same("3, alone", read(Bits.head(1).alone(31, 5).number(0, 20), 3).told(3), 26);
        Check.same("4, behind the distance", read(new Bits().loneBlock(1, 256, 2).number(0, 20), 3).told(3), 53);
        Check.same("5, behind the distance",
            read(new Bits().loneBlock(4, 9, 0).loneBlock(1, 256, 2).number(0, 20), 5).told(3), 105);
        Check.same("6, behind K", read(Bits.head(0).number(0, 20), 3).told(3), 16);
    }

    private static void bitsOfFault1() {
        Check.sentence(TWELVE, "(all there were, of a fault 1)");
        ArchiveDesk desk = new ArchiveDesk();
        int n = new Bits().loneBlock(2, 65, 0).loneBlock(1, 66, 0).onto(desk);
        for (int bytes = 0; bytes <= n; bytes++) {
            Check.same("read(" + bytes + ", 4)", desk.read(bytes, 4), 1);
            Check.same("read(" + bytes + ", 4): told(3)", desk.told(3), 8 * bytes);
        }
        // Fewer bits are left than a number needs: they count too.
        told("of a K", read(new Bits().loneBlock(2, 65, 0), 3), 2, 2, 0, 56);
    }

    private static void bitsWritten() {
        Check.sentence(TWELVE, "or written (without those that fill)");
        ArchiveDesk desk = new ArchiveDesk();
        desk.fill(0, 1);
        desk.fill(20, 1);
        desk.fill(0, 1);
        desk.write(0);
        Check.same("none", desk.told(3), 0);
        Check.same("a byte: bytes", desk.write(1), 7);
        Check.same("a byte: bits", desk.told(3), 52);
        Check.same("nothing to fill: bytes", desk.write(2), 8);
        Check.same("nothing to fill: bits", desk.told(3), 64);
        Check.same("seven to fill: bytes", desk.write(3), 9);
        Check.same("seven to fill: bits", desk.told(3), 65);
    }

    private static void noneBeforeAny() {
        Check.sentence(TWELVE, "NONE before any");
        ArchiveDesk desk = new ArchiveDesk();
        told("new", desk, -1, -1, -1, -1);
        desk.fill(1, 4);
        desk.write(5);
        desk.write(-1);
        desk.read(5, 1);
        desk.read(4, 8001);
        desk.back();
        told("all refused", desk, -1, -1, -1, -1);
        desk.read(0, 0);
        told("one that was not", desk, 0, 0, 0, 0);
        desk = new ArchiveDesk();
        desk.write(0);
        told("a write that was not", desk, 0, 0, 0, 0);
    }

    private static void noneForOthers() {
        Check.sentence(TWELVE, "or for others");
        ArchiveDesk desk = new ArchiveDesk();
        for (int what : new int[] {4, 5, -1, -2, LEAST, MOST}) {
            Check.same("before any: told(" + what + ")", desk.told(what), -1);
        }
        desk.fill(1, 4);
        desk.write(4);
        for (int what : new int[] {4, 5, -1, -2, LEAST, MOST}) {
            Check.same("told(" + what + ")", desk.told(what), -1);
        }
    }
}
