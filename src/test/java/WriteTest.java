/** Promise 8: write, the bits of it by hand, and the rules of copies, blocks, trees and telling. */
public final class WriteTest {
    private static final String NO_P = "0000 0000";

    private WriteTest() {
    }

    public static void main(String[] args) {
        arguments();
        oneSymbol();
        oneCopy();
        rowsOfZeros();
        gapsOfT();
        merging();
        leastDistance();
        longestCopy();
        copyUpToTheEnd();
        blocks();
        sameForTheSame();
        whatWasWrittenIsRead();
        Check.end("WriteTest");
    }

    private static ArchiveDesk desk(int... bytes) {
        ArchiveDesk desk = new ArchiveDesk();
        for (int b : bytes) {
            desk.fill(b, 1);
        }
        return desk;
    }

    private static ArchiveDesk text(String text) {
        return desk(text.chars().toArray());
    }

    private static int onTape(ArchiveDesk desk) {
        return desk.fill(0, 0);
    }

    private static void writes(String name, ArchiveDesk desk, Bits due) {
        Check.same(name, desk.write(onTape(desk)), due.bytes());
        Check.same(name + ": bits", desk.told(3), due.size());
        Check.same(name + ": made", desk.made(), due.bytes());
        for (int i = 0; i < due.bytes(); i++) {
            Check.same(name + ": byte " + i, desk.out(i), due.byteAt(i));
        }
    }

    private static Bits head(int codes) {
        return new Bits().number(codes, 16);
    }

    private static void arguments() {
        ArchiveDesk desk = text("abc");
        Check.same("write(2)", desk.write(2), 9);
        Check.same("write(4)", desk.write(4), -1);
        Check.same("write(-1)", desk.write(-1), -1);
        Check.same("write most", desk.write(Integer.MAX_VALUE), -1);
        Check.same("write least", desk.write(Integer.MIN_VALUE), -1);
        Check.same("nothing changed", desk.made(), 9);
        Check.same("nothing told", desk.told(1), 2);
        Check.same("write(0)", desk.write(0), 0);
        Check.same("nothing made", desk.made(), 0);
        Check.same("the tape stays", desk.peek(2), 'c');
        Check.same("and is as long", onTape(desk), 3);
    }

    private static void oneSymbol() {
        writes("nothing", desk(), new Bits());
        writes("one byte", desk(97), new Bits().loneBlock(1, 97, 0));
        writes("two bytes that are the same", desk(97, 97), new Bits().loneBlock(2, 97, 0));
        writes("three of them", desk(0, 0, 0), new Bits().loneBlock(3, 0, 0));
        // Both have a length of 1: T is of the symbol 3 alone, and tells it without bits.
        writes("two bytes", desk(1, 0), head(2).plain("00000 00011").number(2, 9).plain(NO_P).plain("10"));
    }

    private static void oneCopy() {
        // Lengths of 1 for the byte 7 and the copy, rows of 7 and of 248 lengths 0 before them.
        writes("a copy from 1", desk(7, 7, 7, 7), head(2).plain("00100 000 010 010 00 001")
            .number(257, 9).plain("10 0100 0 11 011100100 0").plain(NO_P).plain("0 1"));
        // P is of its symbol 2 alone; a bit behind tells 4, not 3.
        writes("a copy from 4", desk(0, 1, 2, 3, 0, 1, 2), head(5).plain("00110 000 000 010 01 001 010")
            .number(257, 9).plain("11 11 0 0 10 011101000 0").plain("0000 0010").plain("110 111 00 01 10 1"));
    }

    private static void rowsOfZeros() {
        writes("1 length 0", desk(0, 2), head(2).plain("00100 001 000 000 00 001")
            .number(3, 9).plain("1 0 1").plain(NO_P).plain("0 1"));
        writes("2 lengths 0", desk(0, 3), head(2).plain("00100 001 000 000 00 001")
            .number(4, 9).plain("1 0 0 1").plain(NO_P).plain("0 1"));
        writes("3 lengths 0", desk(0, 4), head(2).plain("00100 000 001 000 00 001")
            .number(5, 9).plain("1 0 0000 1").plain(NO_P).plain("0 1"));
        writes("18 lengths 0", desk(0, 19), head(2).plain("00100 000 001 000 00 001")
            .number(20, 9).plain("1 0 1111 1").plain(NO_P).plain("0 1"));
        writes("19 lengths 0", desk(0, 20), head(2).plain("00100 010 010 000 00 001")
            .number(21, 9).plain("0 10 11 1111 0").plain(NO_P).plain("0 1"));
        writes("20 lengths 0", desk(0, 21), head(2).plain("00100 000 000 001 00 001")
            .number(22, 9).plain("1 0 000000000 1").plain(NO_P).plain("0 1"));
        writes("254 lengths 0", desk(0, 255), head(2).plain("00100 000 000 001 00 001")
            .number(256, 9).plain("1 0 011101010 1").plain(NO_P).plain("0 1"));
    }

    /** So many bytes, each once, and one left out before the last: codes of the same length. */
    private static void gapOfT(int bytes, int length, String tree) {
        ArchiveDesk desk = new ArchiveDesk();
        Bits due = head(bytes).plain(tree).number(bytes + 1, 9).plain("1".repeat(bytes - 1)).plain("0 1").plain(NO_P);
        for (int i = 0; i < bytes; i++) {
            desk.fill(i < bytes - 1 ? i : bytes, 1);
            due.number(i, length);
        }
        writes("T for lengths of " + length, desk, due);
    }

    private static void gapsOfT() {
        gapOfT(4, 2, "00101 001 000 000 01 001");
        gapOfT(8, 3, "00110 001 000 000 10 001");
        gapOfT(16, 4, "00111 001 000 000 11 001");
        gapOfT(32, 5, "01000 001 000 000 11 000 001");
        gapOfT(64, 6, "01001 001 000 000 11 000 000 001");
    }

    private static void merging() {
        // 1, 1, 2, 2 times: what comes of the first two is behind the symbols that weigh the same.
        writes("symbols before merged ones", desk(2, 3, 2, 0, 3, 1), head(6).plain("00000 00100")
            .number(4, 9).plain(NO_P).plain("10 11 10 00 11 01"));
        writes("lesser numbers first", desk(0, 1, 2), head(3).plain("00101 000 000 000 00 001 001")
            .number(3, 9).plain("1 1 0").plain(NO_P).plain("10 11 0"));
        // 1, 1, 1, 3 times: lengths 3, 3, 2, 1.
        ArchiveDesk desk = desk(9, 9, 5, 9, 6, 7);
        desk.write(6);
        int[] due = {3, 3, 2, 0, 1};
        for (int i = 0; i < due.length; i++) {
            Check.same("length of " + (5 + i), desk.length(1, 5 + i), due[i]);
        }
    }

    private static void leastDistance() {
        // Both copies are from 4; the second one could be from 8 too, with another symbol of P.
        ArchiveDesk desk = text("abcXabcYabcZ");
        desk.write(12);
        Check.same("codes", desk.told(1), 8);
        Check.same("copies", desk.told(2), 2);
        Check.same("no second symbol of P", desk.length(2, 3), 0);
        Check.same("P is of one symbol", desk.length(2, 2), 0);
    }

    private static void longestCopy() {
        // abc from 5 and abcd from 9, though abc is nearer.
        ArchiveDesk desk = text("abcdXabcYabcd");
        desk.write(13);
        Check.same("codes", desk.told(1), 8);
        Check.same("copies", desk.told(2), 2);
        Check.same("from 5", desk.length(2, 3), 1);
        Check.same("from 9", desk.length(2, 4), 1);
        Check.same("of 3", desk.length(1, 256) > 0 ? 1 : 0, 1);
        Check.same("of 4", desk.length(1, 257) > 0 ? 1 : 0, 1);
        // No more than 256 bytes: 1 and 256, then one byte more.
        ArchiveDesk same = new ArchiveDesk();
        same.fill(5, 258);
        same.write(258);
        Check.same("258 of them: codes", same.told(1), 3);
        Check.same("258 of them: copies", same.told(2), 1);
        same.write(257);
        Check.same("257 of them: codes", same.told(1), 2);
        same.write(256);
        Check.same("256 of them: length of 508", same.length(1, 508), 1);
        // The longest one at each place, though a byte and then bcdefg would do with less.
        ArchiveDesk greedy = text("abcd1bcdefg2abcdefg");
        greedy.write(19);
        Check.same("greedy: of 4", greedy.length(1, 257) > 0 ? 1 : 0, 1);
        Check.same("greedy: of 6", greedy.length(1, 259), 0);
    }

    private static void copyUpToTheEnd() {
        ArchiveDesk desk = text("abcdeabcde");
        desk.write(8);
        Check.same("a copy of 3 at the end", desk.told(2), 1);
        desk.write(7);
        Check.same("2 are no copy", desk.told(2), 0);
        Check.same("but bytes", desk.told(1), 7);
    }

    /** Bytes of which no three come twice: each is a code of its own. */
    private static ArchiveDesk noCopies(int bytes) {
        ArchiveDesk desk = new ArchiveDesk();
        for (int i = 0; i < bytes; i++) {
            desk.fill(i % 3 == 0 ? 200 + i / 300 : i % 3 == 1 ? i / 3 % 100 : 100 + i / 3 % 100, 1);
        }
        return desk;
    }

    private static void blocks() {
        ArchiveDesk desk = noCopies(1201);
        int[] bytes = {1, 399, 400, 401, 800, 801, 1200, 1201};
        int[] due = {1, 1, 1, 2, 2, 3, 3, 4};
        for (int i = 0; i < bytes.length; i++) {
            desk.write(bytes[i]);
            Check.same("codes of " + bytes[i], desk.told(1), bytes[i]);
            Check.same("blocks of " + bytes[i], desk.told(0), due[i]);
        }
        desk.write(401);
        Check.same("K of the first", desk.out(0) * 256 + desk.out(1), 400);
        Check.same("the last has the rest", desk.length(1, desk.peek(400)), 0);
    }

    private static void sameForTheSame() {
        ArchiveDesk one = noCopies(900);
        ArchiveDesk other = noCopies(900);
        other.write(500);
        other.read(900, 77);
        Check.same("as many", one.write(900), other.write(900));
        for (int i = 0; i < one.made(); i++) {
            Check.same("the same byte " + i, one.out(i), other.out(i));
        }
    }

    private static void whatWasWrittenIsRead() {
        for (int n = 0; n <= 1201; n += 37) {
            ArchiveDesk desk = noCopies(n);
            desk.write(n);
            int bits = desk.told(3);
            int bytes = desk.back();
            Check.same("read of " + n, desk.read(bytes, n), 0);
            Check.same("bits of " + n, desk.told(3), bits);
            ArchiveDesk due = noCopies(n);
            for (int i = 0; i < n; i++) {
                Check.same("byte of " + n, desk.out(i), due.peek(i));
            }
        }
    }
}
