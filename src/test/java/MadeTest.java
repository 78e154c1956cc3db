/** Promises 9 to 11, what is made: a method for each sentence with a boundary case. */
public final class MadeTest {
    private static final int LEAST = Integer.MIN_VALUE;
    private static final int MOST = Integer.MAX_VALUE;
    private static final String NINE = "Promise 9: back";
    private static final String TEN = "Promise 10: made";
    private static final String ELEVEN = "Promise 11: out";

    private MadeTest() {
    }

    public static void main(String[] args) {
        backInPlace();
        backOfNothing();
        backAgain();
        backTooMany();
        backOfAGreatArchive();
        made();
        out();
        outNone();
        outNoneOfAnEarlierOne();
        Check.end("MadeTest");
    }

    /** A desk on which so many bytes 65 are made, by an archive of 7 bytes. */
    private static ArchiveDesk deskWithMade(int bytes) {
        ArchiveDesk desk = new ArchiveDesk();
        int n = new Bits().loneBlock(65535, 65, 0).onto(desk);
        desk.read(n, bytes);
        return desk;
    }

    private static void backInPlace() {
        Check.sentence(NINE, "What is made goes onto the tape, in place of what was there: how many bytes");
        ArchiveDesk desk = deskWithMade(4);
        desk.fill(1, 50);
        Check.same("four bytes", desk.back(), 4);
        Check.same("the first", desk.peek(0), 65);
        Check.same("the last", desk.peek(3), 65);
        Check.same("none behind", desk.peek(4), -1);
        Check.same("fill behind it", desk.fill(2, 1), 5);
        Check.same("its byte", desk.peek(4), 2);
        desk = deskWithMade(4000);
        Check.same("more than were there", desk.back(), 4000);
        Check.same("the last of them", desk.peek(3999), 65);
        desk = deskWithMade(3);
        desk.fill(1, 3993);
        Check.same("on a full tape", desk.back(), 3);
        Check.same("it is not full any more", desk.fill(1, 3997), 4000);
    }

    private static void backOfNothing() {
        Check.sentence(NINE, "What is made goes onto the tape, in place of what was there: how many bytes");
        ArchiveDesk desk = new ArchiveDesk();
        desk.fill(9, 30);
        Check.same("nothing was ever made", desk.back(), 0);
        Check.same("the tape is empty", desk.peek(0), -1);
        Check.same("and has no bytes", desk.fill(0, 0), 0);
        desk = deskWithMade(0);
        Check.same("nothing was read", desk.back(), 0);
        Check.same("the tape is empty", desk.fill(0, 0), 0);
        desk = deskWithMade(5);
        desk.write(0);
        Check.same("nothing was written", desk.back(), 0);
    }

    private static void backAgain() {
        Check.sentence(NINE, "What is made goes onto the tape");
        ArchiveDesk desk = deskWithMade(4);
        desk.back();
        Check.same("what is made stays", desk.made(), 4);
        Check.same("what is told stays", desk.told(1), 4);
        desk.poke(0, 1);
        Check.same("the tape is not what is made", desk.out(0), 65);
        desk.fill(3, 10);
        Check.same("once more", desk.back(), 4);
        Check.same("anew", desk.peek(0), 65);
        desk.clear();
        Check.same("behind clear()", desk.back(), 4);
    }

    private static void backTooMany() {
        Check.sentence(NINE, "NONE, changing nothing, when they are more than 4000");
        Check.same("3999 bytes", deskWithMade(3999).back(), 3999);
        ArchiveDesk desk = deskWithMade(4000);
        Check.same("4000 bytes", desk.back(), 4000);
        Check.same("the last", desk.peek(3999), 65);
        Check.same("no room for one more", desk.fill(1, 1), -1);
        for (int bytes : new int[] {4001, 7999, 8000}) {
            desk = deskWithMade(bytes);
            Seen seen = Seen.of(desk);
            Check.same(bytes + " bytes", desk.back(), -1);
            seen.still("refused", desk);
        }
    }

    private static void backOfAGreatArchive() {
        Check.sentence(NINE, "NONE, changing nothing, when they are more than 4000");
        ArchiveDesk desk = new ArchiveDesk();
        int state = 1;
        for (int i = 0; i < 200; i++) {
            int[] words = new int[5];
            for (int k = 0; k < 20; k++) {
                state = state * 1103515245 + 12345;
                words[k / 4] = words[k / 4] << 8 | state >>> 24;
            }
            desk.feed(words[0], words[1], words[2], words[3], words[4]);
        }
        int bytes = desk.write(4000);
        Check.yes("more than 4000: " + bytes, bytes > 4000);
        Seen seen = Seen.of(desk);
        Check.same("back()", desk.back(), -1);
        seen.still("refused", desk);
        Check.same("made()", desk.made(), bytes);
        Check.yes("its last byte", desk.out(bytes - 1) >= 0);
        Check.same("none behind", desk.out(bytes), -1);
    }

    private static void made() {
        Check.sentence(TEN, "How many bytes are made");
        Check.same("at first", new ArchiveDesk().made(), 0);
        ArchiveDesk desk = new ArchiveDesk();
        int n = new Bits().loneBlock(5, 65, 0).onto(desk);
        desk.read(n, 5);
        Check.same("read", desk.made(), 5);
        desk.read(n, 4);
        Check.same("fewer read", desk.made(), 4);
        desk.read(n, 6);
        Check.same("read with a fault", desk.made(), 5);
        desk.read(n, 8001);
        Check.same("a read that was refused", desk.made(), 5);
        desk.write(1);
        Check.same("written", desk.made(), 7);
        desk.write(n + 1);
        Check.same("a write that was refused", desk.made(), 7);
        desk.read(n, 0);
        Check.same("none wanted", desk.made(), 0);
        desk.read(n, 3);
        desk.write(0);
        Check.same("none written", desk.made(), 0);
        Check.same("the most", deskWithMade(8000).made(), 8000);
    }

    private static void out() {
        Check.sentence(ELEVEN, "Byte i of what is made");
        ArchiveDesk desk = new ArchiveDesk();
        int n = new Bits().loneBlock(1, 65, 0).loneBlock(7998, 0, 0).loneBlock(1, 255, 0).onto(desk);
        desk.read(n, 8000);
        Check.same("the first", desk.out(0), 65);
        Check.same("the second", desk.out(1), 0);
        Check.same("the last but one", desk.out(7998), 0);
        Check.same("the last", desk.out(7999), 255);
        desk.clear();
        Check.same("it is not of the tape", desk.out(7999), 255);
    }

    private static void outNone() {
        Check.sentence(ELEVEN, "NONE when there is none");
        Check.same("nothing made", new ArchiveDesk().out(0), -1);
        ArchiveDesk desk = deskWithMade(2);
        for (int i : new int[] {2, 3, 3999, 8000, -1, -2, LEAST, MOST}) {
            Check.same("out(" + i + ") of 2", desk.out(i), -1);
        }
        desk = deskWithMade(8000);
        Check.same("out(8000) of 8000", desk.out(8000), -1);
        Check.same("out(-1) of 8000", desk.out(-1), -1);
    }

    private static void outNoneOfAnEarlierOne() {
        Check.sentence(ELEVEN, "NONE when there is none");
        ArchiveDesk desk = deskWithMade(30);
        desk.read(7, 1);
        Check.same("of an earlier read", desk.out(1), -1);
        desk.read(7, 30);
        desk.write(1);
        Check.same("of a read before a write", desk.out(7), -1);
        desk.read(7, 0);
        Check.same("none wanted", desk.out(0), -1);
    }
}
