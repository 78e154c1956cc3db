/** Promise 12: told. */
public final class ToldTest {
    private ToldTest() {
    }

    public static void main(String[] args) {
        beforeAny();
        others();
        readings();
        faults();
        writings();
        refused();
        Check.end("ToldTest");
    }

    private static void told(String name, ArchiveDesk desk, int blocks, int codes, int copies, int bits) {
        Check.same(name + ": blocks", desk.told(0), blocks);
        Check.same(name + ": codes", desk.told(1), codes);
        Check.same(name + ": copies", desk.told(2), copies);
        Check.same(name + ": bits", desk.told(3), bits);
    }

    private static void beforeAny() {
        ArchiveDesk desk = new ArchiveDesk();
        told("new", desk, -1, -1, -1, -1);
        desk.fill(1, 4);
        desk.write(5);
        desk.read(5, 1);
        desk.read(4, 8001);
        desk.back();
        told("all refused", desk, -1, -1, -1, -1);
    }

    private static void others() {
        ArchiveDesk desk = new ArchiveDesk();
        desk.write(0);
        told("nothing written", desk, 0, 0, 0, 0);
        Check.same("told(4)", desk.told(4), -1);
        Check.same("told(-1)", desk.told(-1), -1);
        Check.same("told most", desk.told(Integer.MAX_VALUE), -1);
        Check.same("told least", desk.told(Integer.MIN_VALUE), -1);
    }

    private static void readings() {
        ArchiveDesk desk = new ArchiveDesk();
        int n = new Bits().loneBlock(2, 65, 0).loneBlock(9, 256, 0).onto(desk);
        desk.read(n, 0);
        told("none", desk, 0, 0, 0, 0);
        desk.read(n, 1);
        told("one", desk, 1, 1, 0, 52);
        desk.read(n, 2);
        told("a block", desk, 1, 2, 0, 52);
        desk.read(n, 5);
        told("a copy", desk, 2, 3, 1, 104);
        desk.read(n, 8);
        told("two copies", desk, 2, 4, 2, 104);
    }

    private static void faults() {
        ArchiveDesk desk = new ArchiveDesk();
        int n = new Bits().loneBlock(2, 65, 0).loneBlock(9, 256, 2).number(0, 1).onto(desk);
        Check.same("3 back of 2", desk.read(n, 9), 4);
        told("4: neither", desk, 2, 2, 0, 105);
        n = new Bits().loneBlock(2, 65, 0).loneBlock(9, 256, 1).onto(desk);
        desk.read(n, 3);
        told("5: both", desk, 2, 3, 1, 104);
        n = new Bits().loneBlock(2, 65, 0).onto(desk);
        desk.read(n, 3);
        told("1: all bits there were", desk, 2, 2, 0, 56);
        desk.read(0, 3);
        told("1: of none", desk, 1, 0, 0, 0);
        n = new Bits().loneBlock(2, 65, 0).number(0, 16).onto(desk);
        desk.read(n, 3);
        told("6: K was read", desk, 2, 2, 0, 68);
        n = new Bits().number(1, 16).number(31, 5).onto(desk);
        desk.read(n, 3);
        told("3: n was read", desk, 1, 0, 0, 21);
        n = new Bits().number(1, 16).plain("00001 001").onto(desk);
        desk.read(n, 3);
        told("2: the lengths were read", desk, 1, 0, 0, 24);
        // The symbol of a copy, whose distance is cut off.
        n = new Bits().loneBlock(2, 65, 0).loneBlock(9, 256, 13).onto(desk);
        desk.read(n, 9);
        told("1: no whole copy", desk, 2, 2, 0, 104);
    }

    private static void writings() {
        ArchiveDesk desk = new ArchiveDesk();
        desk.fill(97, 4000);
        desk.write(4000);
        told("all the same", desk, 1, 17, 16, 110);
        desk.write(1);
        told("one", desk, 1, 1, 0, 52);
    }

    private static void refused() {
        ArchiveDesk desk = new ArchiveDesk();
        int n = new Bits().loneBlock(2, 65, 0).onto(desk);
        desk.read(n, 2);
        desk.read(n + 1, 2);
        desk.read(n, -1);
        desk.write(n + 1);
        desk.write(-1);
        told("the latest that was not refused", desk, 1, 2, 0, 52);
        desk.clear();
        told("without the tape", desk, 1, 2, 0, 52);
    }
}
