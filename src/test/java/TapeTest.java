/** Promises 1 to 6, the tape: a method for each sentence with a boundary case. */
public final class TapeTest {
    private static final int LEAST = Integer.MIN_VALUE;
    private static final int MOST = Integer.MAX_VALUE;
    private static final String ONE = "Promise 1: A new object";
    private static final String TWO = "Promise 2: feed";
    private static final String THREE = "Promise 3: fill";
    private static final String FOUR = "Promise 4: peek";
    private static final String FIVE = "Promise 5: poke";
    private static final String SIX = "Promise 6: clear";

    private TapeTest() {
    }

    public static void main(String[] args) {
        newTape();
        newProduct();
        twoObjects();
        calls512();
        feedHighestFirst();
        feedHowMany();
        feedTooMany();
        fillCopies();
        fillTooMany();
        fillBelow0();
        fillNoByte();
        peekByte();
        peekNone();
        pokeByte();
        pokeNone();
        pokeNoByte();
        clear();
        clearTheTapeAlone();
        Check.end("TapeTest");
    }

    /** A desk with something on its tape, made and told, so that a change would be seen. */
    private static ArchiveDesk busyDesk() {
        ArchiveDesk desk = new ArchiveDesk();
        desk.feed(0x41424344, 0x41424345, 0x41424346, 0x41424347, 0x41424348);
        desk.write(20);
        return desk;
    }

    private static int count(ArchiveDesk desk) {
        return desk.fill(0, 0);
    }

    private static void newTape() {
        Check.sentence(ONE, "An empty tape");
        Check.same("peek(0)", new ArchiveDesk().peek(0), -1);
        Check.no("poke(0, 0)", new ArchiveDesk().poke(0, 0));
        Check.same("fill(1, 0)", new ArchiveDesk().fill(1, 0), 0);
        Check.same("feed", new ArchiveDesk().feed(1, 2, 3, 4, 5), 20);
        Check.same("write(1)", new ArchiveDesk().write(1), -1);
        Check.same("write(0)", new ArchiveDesk().write(0), 0);
        Check.same("read(1, 0)", new ArchiveDesk().read(1, 0), -1);
        Check.same("read(0, 0)", new ArchiveDesk().read(0, 0), 0);
        Check.same("read(0, 1)", new ArchiveDesk().read(0, 1), 1);
    }

    private static void newProduct() {
        Check.sentence(ONE, "nothing made");
        Check.same("made()", new ArchiveDesk().made(), 0);
        Check.same("out(0)", new ArchiveDesk().out(0), -1);
        Check.same("back()", new ArchiveDesk().back(), 0);
        Check.same("told(0)", new ArchiveDesk().told(0), -1);
        Check.same("length(0, 0)", new ArchiveDesk().length(0, 0), -1);
    }

    private static void twoObjects() {
        Check.sentence(ONE, "An empty tape, nothing made");
        ArchiveDesk one = busyDesk();
        ArchiveDesk other = new ArchiveDesk();
        Check.same("peek(0) of another object", other.peek(0), -1);
        Check.same("made() of another object", other.made(), 0);
        Check.same("told(0) of another object", other.told(0), -1);
        Seen before = Seen.of(one);
        other.fill(1, 30);
        other.write(30);
        before.still("the other one filled and written", one);
    }

    private static void calls512() {
        Check.sentence("What it is", "An object is used for at most 512 calls after it has been made");
        ArchiveDesk desk = new ArchiveDesk();
        for (int i = 0; i < 128; i++) {
            Check.same("fill", desk.fill(i, 8), 8 * i % 256 + 8);
            Check.same("write", desk.write(8) > 0 ? 1 : 0, 1);
            Check.same("peek", desk.peek(8 * i % 256), i);
            if (i % 32 == 31) {
                desk.clear();
            } else {
                Check.same("told", desk.told(0), 1);
            }
        }
        ArchiveDesk other = new ArchiveDesk();
        for (int i = 1; i < 512; i++) {
            other.fill(65, 1);
        }
        ArchiveDesk fewCalls = new ArchiveDesk();
        fewCalls.fill(65, 511);
        Check.same("the 512th call", other.write(511), fewCalls.write(511));
    }

    private static void feedHighestFirst() {
        Check.sentence(TWO, "Twenty bytes more, the highest byte of each first");
        ArchiveDesk desk = new ArchiveDesk();
        desk.feed(0x01020304, 0xF1F2F3F4, LEAST, MOST, -2);
        int[] due = {1, 2, 3, 4, 0xF1, 0xF2, 0xF3, 0xF4, 128, 0, 0, 0, 127, 255, 255, 255, 255, 255, 255, 254};
        for (int i = 0; i < 20; i++) {
            Check.same("peek(" + i + ")", desk.peek(i), due[i]);
        }
        Check.same("peek(20)", desk.peek(20), -1);
    }

    private static void feedHowMany() {
        Check.sentence(TWO, "how many there are");
        ArchiveDesk desk = new ArchiveDesk();
        Check.same("first", desk.feed(1, 2, 3, 4, 5), 20);
        Check.same("second", desk.feed(6, 7, 8, 9, 10), 40);
        Check.same("the first stay", desk.peek(19), 5);
        Check.same("behind them", desk.peek(23), 6);
        desk.fill(1, 1);
        Check.same("behind one more", desk.feed(0, 0, 0, 0, 11), 61);
        Check.same("its last", desk.peek(60), 11);
    }

    private static void feedTooMany() {
        Check.sentence(TWO, "NONE, changing nothing, when there would be more than 4000");
        for (int before : new int[] {3960, 3979, 3980}) {
            ArchiveDesk desk = new ArchiveDesk();
            desk.fill(3, before);
            Check.same("behind " + before, desk.feed(0, 0, 0, 0, 77), before + 20);
            Check.same("the last byte", desk.peek(before + 19), 77);
        }
        for (int before : new int[] {3981, 3999, 4000}) {
            ArchiveDesk desk = busyDesk();
            desk.fill(3, before - 20);
            Seen seen = Seen.of(desk);
            Check.same("behind " + before, desk.feed(0, 0, 0, 0, 77), -1);
            seen.still("refused behind " + before, desk);
            Check.same("what still fits", desk.fill(5, 4000 - before), 4000);
        }
    }

    private static void fillCopies() {
        Check.sentence(THREE, "So many copies of a byte more: how many there are");
        ArchiveDesk desk = new ArchiveDesk();
        Check.same("fill(255, 3)", desk.fill(255, 3), 3);
        Check.same("fill(0, 2)", desk.fill(0, 2), 5);
        Check.same("fill(9, 0)", desk.fill(9, 0), 5);
        Check.same("fill(128, 1)", desk.fill(128, 1), 6);
        int[] due = {255, 255, 255, 0, 0, 128, -1};
        for (int i = 0; i < due.length; i++) {
            Check.same("peek(" + i + ")", desk.peek(i), due[i]);
        }
    }

    private static void fillTooMany() {
        Check.sentence(THREE, "NONE, changing nothing, when there would be more than 4000");
        Check.same("4000 at once", new ArchiveDesk().fill(9, 4000), 4000);
        Check.same("4001 at once", new ArchiveDesk().fill(9, 4001), -1);
        ArchiveDesk desk = busyDesk();
        Seen seen = Seen.of(desk);
        for (int n : new int[] {3981, 4000, 4001, MOST - 20, MOST - 19, MOST}) {
            Check.same("20 and " + n, desk.fill(9, n), -1);
        }
        seen.still("refused", desk);
        Check.same("20 and 3980", desk.fill(9, 3980), 4000);
        Check.same("the last", desk.peek(3999), 9);
        Seen full = Seen.of(desk);
        Check.same("4000 and 1", desk.fill(9, 1), -1);
        Check.same("4000 and the most", desk.fill(9, MOST), -1);
        Check.same("4000 and 0", desk.fill(9, 0), 4000);
        full.still("refused when it is full", desk);
    }

    private static void fillBelow0() {
        Check.sentence(THREE, "or n is below 0");
        ArchiveDesk desk = busyDesk();
        Seen seen = Seen.of(desk);
        for (int n : new int[] {-1, -20, -21, LEAST, LEAST + 1}) {
            Check.same("fill(9, " + n + ")", desk.fill(9, n), -1);
        }
        seen.still("refused", desk);
        Check.same("fill(9, 0)", desk.fill(9, 0), 20);
        Check.same("fill(9, -1) of none", new ArchiveDesk().fill(9, -1), -1);
    }

    private static void fillNoByte() {
        Check.sentence(THREE, "or v not 0 .. 255");
        ArchiveDesk desk = busyDesk();
        Seen seen = Seen.of(desk);
        for (int v : new int[] {-1, 256, 65535 + 1, LEAST, MOST}) {
            Check.same("fill(" + v + ", 1)", desk.fill(v, 1), -1);
            Check.same("fill(" + v + ", 0)", desk.fill(v, 0), -1);
        }
        seen.still("refused", desk);
        Check.same("fill(0, 1)", desk.fill(0, 1), 21);
        Check.same("fill(255, 1)", desk.fill(255, 1), 22);
        Check.same("its byte", desk.peek(21), 255);
    }

    private static void peekByte() {
        Check.sentence(FOUR, "A byte of the tape");
        ArchiveDesk desk = new ArchiveDesk();
        desk.fill(200, 1);
        desk.fill(7, 3998);
        desk.fill(255, 1);
        Check.same("the first", desk.peek(0), 200);
        Check.same("the second", desk.peek(1), 7);
        Check.same("the last but one", desk.peek(3998), 7);
        Check.same("the last", desk.peek(3999), 255);
        Check.same("nothing changed", count(desk), 4000);
    }

    private static void peekNone() {
        Check.sentence(FOUR, "NONE when there is none");
        ArchiveDesk desk = new ArchiveDesk();
        Check.same("of an empty tape", desk.peek(0), -1);
        desk.fill(200, 2);
        for (int i : new int[] {2, 3, 3999, 4000, -1, -2, LEAST, MOST}) {
            Check.same("peek(" + i + ") of 2", desk.peek(i), -1);
        }
        desk.fill(200, 3998);
        Check.same("peek(4000) of 4000", desk.peek(4000), -1);
        desk.write(0);
        desk.back();
        Check.same("peek(0) of an empty tape again", desk.peek(0), -1);
    }

    private static void pokeByte() {
        Check.sentence(FIVE, "A byte of the tape becomes v");
        ArchiveDesk desk = new ArchiveDesk();
        desk.fill(5, 4000);
        Check.yes("the first", desk.poke(0, 255));
        Check.yes("one between", desk.poke(2, 0));
        Check.yes("the last", desk.poke(3999, 128));
        Check.yes("as it was", desk.poke(3998, 5));
        int[] places = {0, 1, 2, 3, 3998, 3999};
        int[] due = {255, 5, 0, 5, 5, 128};
        for (int i = 0; i < due.length; i++) {
            Check.same("peek(" + places[i] + ")", desk.peek(places[i]), due[i]);
        }
        Check.same("no more, no fewer", count(desk), 4000);
        ArchiveDesk busy = busyDesk();
        int made = busy.out(0);
        busy.back();
        busy.poke(0, 99);
        Check.same("what is made is not the tape", busy.out(0), made);
    }

    private static void pokeNone() {
        Check.sentence(FIVE, "False when there is none");
        ArchiveDesk desk = new ArchiveDesk();
        Check.no("on an empty tape", desk.poke(0, 1));
        Check.same("still empty", count(desk), 0);
        desk = busyDesk();
        Seen seen = Seen.of(desk);
        for (int i : new int[] {20, 21, 3999, 4000, -1, LEAST, MOST}) {
            Check.no("poke(" + i + ", 1) on 20", desk.poke(i, 1));
        }
        seen.still("refused", desk);
        desk.fill(4, 1);
        Check.same("what was not there has not become it", desk.peek(20), 4);
        desk.clear();
        Check.no("behind clear()", desk.poke(0, 1));
    }

    private static void pokeNoByte() {
        Check.sentence(FIVE, "or v is not 0 .. 255");
        ArchiveDesk desk = busyDesk();
        Seen seen = Seen.of(desk);
        for (int v : new int[] {-1, 256, LEAST, MOST}) {
            Check.no("poke(0, " + v + ")", desk.poke(0, v));
            Check.no("poke(20, " + v + ")", desk.poke(20, v));
        }
        seen.still("refused", desk);
        Check.yes("poke(0, 0)", desk.poke(0, 0));
        Check.yes("poke(0, 255)", desk.poke(0, 255));
    }

    private static void clear() {
        Check.sentence(SIX, "The tape is empty");
        ArchiveDesk desk = new ArchiveDesk();
        desk.clear();
        Check.same("an empty one", count(desk), 0);
        desk.fill(97, 4000);
        desk.clear();
        Check.same("a full one", count(desk), 0);
        Check.same("no byte", desk.peek(0), -1);
        Check.same("none to write", desk.write(1), -1);
        Check.same("none to read", desk.read(1, 0), -1);
        Check.same("from the start", desk.fill(98, 1), 1);
        Check.same("the new byte", desk.peek(0), 98);
        Check.same("no old one behind it", desk.peek(1), -1);
        Check.same("room for all again", desk.fill(99, 3999), 4000);
    }

    private static void clearTheTapeAlone() {
        Check.sentence(SIX, "The tape is empty");
        ArchiveDesk desk = new ArchiveDesk();
        desk.fill(97, 4000);
        desk.write(2);
        desk.clear();
        Check.same("what is made stays", desk.made(), 7);
        Check.same("its byte", desk.out(4), 6);
        Check.same("what is told stays", desk.told(3), 52);
        Check.same("length stays", desk.length(1, 97), 0);
        Check.same("back() still has it", desk.back(), 7);
    }
}
