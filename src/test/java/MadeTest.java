/** Promises 9 to 11: back, made and out. */
public final class MadeTest {
    private MadeTest() {
    }

    public static void main(String[] args) {
        back();
        backAtTheLimit();
        backOfAGreatArchive();
        made();
        out();
        Check.end("MadeTest");
    }

    private static void back() {
        ArchiveDesk desk = new ArchiveDesk();
        desk.fill(9, 30);
        Check.same("nothing made goes onto the tape", desk.back(), 0);
        Check.same("the tape is empty", desk.peek(0), -1);
        int n = new Bits().loneBlock(5, 65, 0).onto(desk);
        desk.read(n, 4);
        desk.fill(1, 50);
        Check.same("four bytes", desk.back(), 4);
        Check.same("the first", desk.peek(0), 65);
        Check.same("the last", desk.peek(3), 65);
        Check.same("none behind", desk.peek(4), -1);
        Check.same("what is made stays", desk.made(), 4);
        Check.yes("poke", desk.poke(0, 1));
        Check.same("but is not the tape", desk.out(0), 65);
        Check.same("once more", desk.back(), 4);
        Check.same("anew", desk.peek(0), 65);
        Check.same("what is told stays", desk.told(1), 4);
        Check.same("fill behind it", desk.fill(2, 1), 5);
        Check.same("its byte", desk.peek(4), 2);
    }

    private static void backAtTheLimit() {
        ArchiveDesk desk = new ArchiveDesk();
        int n = new Bits().loneBlock(65535, 65, 0).onto(desk);
        desk.read(n, 4000);
        Check.same("4000 bytes", desk.back(), 4000);
        Check.same("the last", desk.peek(3999), 65);
        Check.same("no room", desk.fill(1, 1), -1);
        n = new Bits().loneBlock(65535, 66, 0).onto(desk);
        desk.read(n, 4001);
        Check.same("4001 bytes", desk.back(), -1);
        Check.same("the tape stays", desk.peek(3), 0);
        Check.same("and is as long", desk.fill(0, 0), n);
        Check.same("what is made stays", desk.made(), 4001);
        desk.read(n, 8000);
        Check.same("8000 bytes", desk.back(), -1);
    }

    private static void backOfAGreatArchive() {
        ArchiveDesk desk = new ArchiveDesk();
        int state = 1;
        for (int i = 0; i < 4000; i++) {
            state = state * 1103515245 + 12345;
            desk.fill(state >>> 24, 1);
        }
        int bytes = desk.write(4000);
        Check.yes("more than 4000: " + bytes, bytes > 4000);
        Check.same("made()", desk.made(), bytes);
        Check.yes("its last byte", desk.out(bytes - 1) >= 0);
        Check.same("none behind", desk.out(bytes), -1);
        Check.same("back()", desk.back(), -1);
        Check.same("the tape stays", desk.fill(0, 0), 4000);
    }

    private static void made() {
        ArchiveDesk desk = new ArchiveDesk();
        Check.same("at first", desk.made(), 0);
        int n = new Bits().loneBlock(5, 65, 0).onto(desk);
        desk.read(n, 5);
        Check.same("read", desk.made(), 5);
        desk.read(n, 6);
        Check.same("read with a fault", desk.made(), 5);
        desk.read(n, 8001);
        Check.same("refused", desk.made(), 5);
        desk.write(1);
        Check.same("written", desk.made(), 7);
        desk.write(n + 1);
        Check.same("refused too", desk.made(), 7);
        desk.read(n, 0);
        Check.same("none", desk.made(), 0);
    }

    private static void out() {
        ArchiveDesk desk = new ArchiveDesk();
        int n = new Bits().loneBlock(1, 65, 0).loneBlock(1, 255, 0).onto(desk);
        desk.read(n, 2);
        Check.same("out(0)", desk.out(0), 65);
        Check.same("out(1)", desk.out(1), 255);
        Check.same("out(2)", desk.out(2), -1);
        Check.same("out(-1)", desk.out(-1), -1);
        Check.same("out most", desk.out(Integer.MAX_VALUE), -1);
        Check.same("out least", desk.out(Integer.MIN_VALUE), -1);
        desk.read(n, 1);
        Check.same("no byte of an earlier one", desk.out(1), -1);
        desk.clear();
        Check.same("clear() is of the tape", desk.out(0), 65);
    }
}
