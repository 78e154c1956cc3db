/** Promise 8, write: a method for each sentence with a boundary case. */
public final class WriteTest {
    private static final int LEAST = Integer.MIN_VALUE;
    private static final int MOST = Integer.MAX_VALUE;
    private static final String EIGHT = "Promise 8: write";

    private WriteTest() {
    }

    public static void main(String[] args) {
        theFirstBytes();
        howManyBytes();
        none();
        theMost();
        refused();
        refusedOnAnEmptyTape();
        theTapeStays();
        sameForTheSame();
        whatWasWrittenIsRead();
        Check.end("WriteTest");
    }

    private static void theFirstBytes() {
        Check.sentence(EIGHT, "Writes the first n bytes of the tape");
        ArchiveDesk one = Tapes.text("abcabcabcXYZ");
        for (int n = 0; n <= 12; n++) {
            ArchiveDesk other = Tapes.text("abcabcabcXYZ".substring(0, n));
            Check.same("write(" + n + ")", one.write(n), other.write(n));
            Check.same("write(" + n + "): bits", one.told(3), other.told(3));
            for (int i = 0; i < other.made(); i++) {
                Check.same("write(" + n + "): out(" + i + ")", one.out(i), other.out(i));
            }
        }
    }

    private static void howManyBytes() {
        Check.sentence(EIGHT, "how many bytes the archive has, which is what is made then");
        ArchiveDesk desk = Tapes.of(97, 97, 98);
        Check.same("write(1)", desk.write(1), 7);
        Check.same("made", desk.made(), 7);
        int[] due = {0, 1, 0, 0, 6, 16, 0, -1};
        for (int i = 0; i < due.length; i++) {
            Check.same("out(" + i + ")", desk.out(i), due[i]);
        }
        int bytes = desk.write(3);
        Check.same("more than before", desk.made(), bytes);
        Check.same("its last", desk.out(bytes - 1) >= 0 ? 1 : 0, 1);
        Check.same("fewer again", desk.write(2), 7);
        Check.same("none of those before", desk.out(7), -1);
        desk.read(7, 8000);
        Check.same("behind a read", desk.write(1), 7);
        Check.same("made behind a read", desk.made(), 7);
    }

    private static void none() {
        Check.sentence(EIGHT, "Writes the first n bytes of the tape: how many bytes the archive has");
        ArchiveDesk desk = Tapes.of(97, 98);
        desk.write(2);
        Check.same("write(0)", desk.write(0), 0);
        Check.same("nothing made", desk.made(), 0);
        Check.same("no byte", desk.out(0), -1);
        Check.same("no block", desk.told(0), 0);
        Check.same("no bits", desk.told(3), 0);
        Check.same("of an empty tape", new ArchiveDesk().write(0), 0);
    }

    private static void theMost() {
        Check.sentence(EIGHT, "Writes the first n bytes of the tape: how many bytes the archive has");
        ArchiveDesk desk = new ArchiveDesk();
        desk.fill(97, 4000);
        Check.same("4000 that are the same", desk.write(4000), 14);
        desk = Tapes.of(Tapes.unlike(4000));
        int bytes = desk.write(4000);
        Check.same("4000 without a copy: codes", desk.told(1), 4000);
        Check.same("4000 without a copy: made", desk.made(), bytes);
        Check.same("4000 without a copy: bits", (desk.told(3) + 7) / 8, bytes);
        Check.same("back()", desk.back(), bytes);
        Check.same("read again", desk.read(bytes, 4000), 0);
        int[] due = Tapes.unlike(4000);
        for (int i = 0; i < 4000; i += 37) {
            Check.same("out(" + i + ")", desk.out(i), due[i]);
        }
        Check.same("the last", desk.out(3999), due[3999]);
    }

    private static void refused() {
        Check.sentence(EIGHT, "NONE, changing nothing, when n is not 0 .. the number of bytes");
        ArchiveDesk desk = Tapes.text("abcabcab");
        desk.write(7);
        Seen seen = Seen.of(desk);
        for (int n : new int[] {9, 10, 4000, 4001, MOST, -1, -8, LEAST}) {
            Check.same("write(" + n + ") of 8", desk.write(n), -1);
        }
        seen.still("refused", desk);
        Check.yes("write(8) of 8", desk.write(8) > 0);
        desk.fill(0, 1);
        Check.yes("write(9) of 9", desk.write(9) > 0);
    }

    private static void refusedOnAnEmptyTape() {
        Check.sentence(EIGHT, "NONE, changing nothing, when n is not 0 .. the number of bytes");
        ArchiveDesk desk = new ArchiveDesk();
        Check.same("write(1)", desk.write(1), -1);
        Check.same("nothing is told", desk.told(0), -1);
        desk = Tapes.text("abcabcab");
        desk.write(8);
        desk.clear();
        Seen seen = Seen.of(desk);
        Check.same("write(1) behind clear()", desk.write(1), -1);
        Check.same("write(8) behind clear()", desk.write(8), -1);
        seen.still("refused", desk);
    }

    private static void theTapeStays() {
        Check.sentence(EIGHT, "the first n bytes of the tape");
        int[] bytes = Tapes.unlike(100);
        ArchiveDesk desk = Tapes.of(bytes);
        desk.write(100);
        desk.write(50);
        for (int i = 0; i < 100; i++) {
            Check.same("peek(" + i + ")", desk.peek(i), bytes[i]);
        }
        Check.same("as many", Tapes.count(desk), 100);
    }

    private static void sameForTheSame() {
        Check.sentence("What it is", "and written, the same for the same bytes");
        ArchiveDesk one = Tapes.of(Tapes.unlike(180));
        // The other one has had other bytes, archives and trees before.
        ArchiveDesk other = Tapes.of(Tapes.unlike(900));
        other.write(900);
        other.read(900, 77);
        other.clear();
        other.fill(3, 500);
        other.write(500);
        other.clear();
        Tapes.add(other, Tapes.unlike(180));
        Check.same("as many", one.write(180), other.write(180));
        int made = one.made();
        for (int i = 0; i < made; i++) {
            Check.same("out(" + i + ")", one.out(i), other.out(i));
        }
        other.poke(179, 255);
        other.write(180);
        other.poke(179, one.peek(179));
        Check.same("as many again", other.write(180), made);
        Check.same("the last again", other.out(made - 1), one.out(made - 1));
    }

    private static void whatWasWrittenIsRead() {
        Check.sentence("What it is", "read, whatever stands in them, and written");
        for (int n = 0; n <= 1201; n += 37) {
            int[] bytes = Tapes.unlike(n);
            ArchiveDesk desk = Tapes.of(bytes);
            desk.write(n);
            int bits = desk.told(3);
            int made = desk.back();
            Check.same("read of " + n, desk.read(made, n), 0);
            Check.same("bits of " + n, desk.told(3), bits);
            for (int i = 0; i < n; i += 1 + n / 200) {
                Check.same("out(" + i + ") of " + n, desk.out(i), bytes[i]);
            }
        }
    }
}
