/** Promises 1 to 6: a new object, feed, fill, peek, poke and clear. */
public final class TapeTest {
    private TapeTest() {
    }

    public static void main(String[] args) {
        newObject();
        feed();
        fill();
        peek();
        poke();
        clear();
        Check.end("TapeTest");
    }

    private static void newObject() {
        ArchiveDesk desk = new ArchiveDesk();
        Check.same("new: peek(0)", desk.peek(0), -1);
        Check.same("new: made()", desk.made(), 0);
        Check.same("new: out(0)", desk.out(0), -1);
        Check.same("new: fill(1, 0)", desk.fill(1, 0), 0);
        Check.same("new: write(1)", desk.write(1), -1);
        Check.same("new: read(1, 0)", desk.read(1, 0), -1);
        Check.same("new: told(0)", desk.told(0), -1);
        Check.same("new: length(0, 0)", desk.length(0, 0), -1);
        Check.same("new: back()", desk.back(), 0);
        desk.fill(7, 3);
        Check.same("two objects", new ArchiveDesk().peek(0), -1);
    }

    private static void feed() {
        ArchiveDesk desk = new ArchiveDesk();
        Check.same("feed", desk.feed(0x01020304, 0xF1F2F3F4, 0x80000000, 0x7FFFFFFF, -2), 20);
        int[] due = {1, 2, 3, 4, 0xF1, 0xF2, 0xF3, 0xF4, 128, 0, 0, 0, 127, 255, 255, 255, 255, 255, 255, 254};
        for (int i = 0; i < 20; i++) {
            Check.same("fed byte " + i, desk.peek(i), due[i]);
        }
        Check.same("feed again", desk.feed(5, 6, 7, 8, 9), 40);
        Check.same("the end of it", desk.peek(39), 9);
        desk.fill(3, 3939);
        Check.same("feed to 3999", desk.feed(1, 1, 1, 1, 1), 3999);
        Check.same("feed above 4000", desk.feed(1, 1, 1, 1, 1), -1);
        Check.same("nothing changed", desk.fill(0, 0), 3999);
        Check.same("nothing behind", desk.peek(3999), -1);
        desk.clear();
        desk.fill(3, 3980);
        Check.same("feed to 4000", desk.feed(0, 0, 0, 0, 77), 4000);
        Check.same("its last", desk.peek(3999), 77);
        desk.clear();
        desk.fill(3, 3981);
        Check.same("feed to 4001", desk.feed(0, 0, 0, 0, 77), -1);
        Check.same("none of it", desk.fill(3, 0), 3981);
    }

    private static void fill() {
        ArchiveDesk desk = new ArchiveDesk();
        Check.same("fill", desk.fill(255, 3), 3);
        Check.same("fill 0", desk.fill(0, 2), 5);
        Check.same("byte 2", desk.peek(2), 255);
        Check.same("byte 3", desk.peek(3), 0);
        Check.same("fill none", desk.fill(9, 0), 5);
        Check.same("n below 0", desk.fill(9, -1), -1);
        Check.same("n least", desk.fill(9, Integer.MIN_VALUE), -1);
        Check.same("n most", desk.fill(9, Integer.MAX_VALUE), -1);
        Check.same("v below 0", desk.fill(-1, 1), -1);
        Check.same("v above 255", desk.fill(256, 1), -1);
        Check.same("v above 255 for none", desk.fill(256, 0), -1);
        Check.same("nothing changed", desk.peek(5), -1);
        Check.same("above 4000", desk.fill(9, 3996), -1);
        Check.same("to 4000", desk.fill(9, 3995), 4000);
        Check.same("one more", desk.fill(9, 1), -1);
        Check.same("none more", desk.fill(9, 0), 4000);
    }

    private static void peek() {
        ArchiveDesk desk = new ArchiveDesk();
        desk.fill(200, 1);
        desk.fill(100, 1);
        Check.same("peek(0)", desk.peek(0), 200);
        Check.same("peek(1)", desk.peek(1), 100);
        Check.same("peek(2)", desk.peek(2), -1);
        Check.same("peek(-1)", desk.peek(-1), -1);
        Check.same("peek least", desk.peek(Integer.MIN_VALUE), -1);
        Check.same("peek most", desk.peek(Integer.MAX_VALUE), -1);
        Check.same("peek(4000)", desk.peek(4000), -1);
    }

    private static void poke() {
        ArchiveDesk desk = new ArchiveDesk();
        Check.no("poke on none", desk.poke(0, 1));
        desk.fill(5, 3);
        Check.yes("poke(1, 255)", desk.poke(1, 255));
        Check.yes("poke(2, 0)", desk.poke(2, 0));
        Check.no("poke(3, 0)", desk.poke(3, 0));
        Check.no("poke(-1, 0)", desk.poke(-1, 0));
        Check.no("poke(0, 256)", desk.poke(0, 256));
        Check.no("poke(0, -1)", desk.poke(0, -1));
        Check.no("poke most", desk.poke(Integer.MAX_VALUE, 0));
        Check.same("byte 0", desk.peek(0), 5);
        Check.same("byte 1", desk.peek(1), 255);
        Check.same("byte 2", desk.peek(2), 0);
        Check.same("still", desk.fill(0, 0), 3);
    }

    private static void clear() {
        ArchiveDesk desk = new ArchiveDesk();
        desk.fill(97, 4000);
        desk.write(1);
        desk.clear();
        Check.same("no byte", desk.peek(0), -1);
        Check.no("none to poke", desk.poke(0, 1));
        Check.same("none to write", desk.write(1), -1);
        Check.same("what is made stays", desk.made(), 7);
        Check.same("what is told stays", desk.told(3), 52);
        Check.same("length stays", desk.length(1, 97), 0);
        Check.same("from the start", desk.fill(98, 1), 1);
        Check.same("the new byte", desk.peek(0), 98);
        Check.same("nothing behind", desk.peek(1), -1);
    }
}
