/** Desks with bytes on their tapes, by few calls: an object has 512 of them. */
final class Tapes {
    private Tapes() {
    }

    static ArchiveDesk of(int... bytes) {
        ArchiveDesk desk = new ArchiveDesk();
        add(desk, bytes);
        return desk;
    }

    static ArchiveDesk text(String text) {
        return of(text.chars().toArray());
    }

    static void add(ArchiveDesk desk, int... bytes) {
        int i = 0;
        for (; i + 20 <= bytes.length; i += 20) {
            desk.feed(word(bytes, i), word(bytes, i + 4), word(bytes, i + 8), word(bytes, i + 12), word(bytes, i + 16));
        }
        for (; i < bytes.length; i++) {
            desk.fill(bytes[i], 1);
        }
    }

    private static int word(int[] bytes, int i) {
        return bytes[i] << 24 | bytes[i + 1] << 16 | bytes[i + 2] << 8 | bytes[i + 3];
    }

    /** Bytes below 200 of which no three come twice: each is a code of its own. At most 4000. */
    static int[] unlike(int count) {
        int[] bytes = new int[count];
        for (int i = 0; i < count; i++) {
            bytes[i] = i % 2 == 0 ? i / 200 : 100 + i / 2 % 100;
        }
        return bytes;
    }

    static int count(ArchiveDesk desk) {
        return desk.fill(0, 0);
    }
}
