/** Archives put together by hand, read by a new desk. */
final class Reading {
    private Reading() {
    }

    /** Reads so many bytes of it: the answer, how many bits were read and how many bytes are made. */
    static ArchiveDesk of(String name, Bits bits, int size, int fault, int bitsRead, int made) {
        ArchiveDesk desk = new ArchiveDesk();
        int n = bits.onto(desk);
        Check.same(name + ": read(" + n + ", " + size + ")", desk.read(n, size), fault);
        Check.same(name + ": told(3)", desk.told(3), bitsRead);
        Check.same(name + ": made()", desk.made(), made);
        return desk;
    }

    /** All of its bits are read, without a fault, and make these bytes. */
    static ArchiveDesk makes(String name, Bits bits, int... bytes) {
        ArchiveDesk desk = of(name, bits, bytes.length, 0, bits.size(), bytes.length);
        for (int i = 0; i < bytes.length; i++) {
            Check.same(name + ": out(" + i + ")", desk.out(i), bytes[i]);
        }
        return desk;
    }

    /** The last of its bits is that by which the fault is come to, whether there are more or not. */
    static void faultAtTheLastBit(String name, Bits bits, int fault) {
        of(name + ", more bits behind", new Bits().plain(bits.text()).number(-1, 30), 1, fault, bits.size(), 0);
        Bits ended = Bits.endingWithAByte(bits);
        int before = (ended.size() - bits.size()) / 53;
        of(name + ", no bit behind", ended, before + 1, fault, ended.size(), before);
    }

    /** The lengths of a tree from its first symbol on; all others must be 0. */
    static void lengths(String name, ArchiveDesk desk, int tree, int... due) {
        int[] symbols = {19, 510, 14};
        // An object has 512 calls: those of C that are not told are looked at here and there.
        for (int symbol = 0; symbol < symbols[tree]; symbol += symbol < 60 ? 1 : 7) {
            Check.same(name + ": length(" + tree + ", " + symbol + ")", desk.length(tree, symbol),
                symbol < due.length ? due[symbol] : 0);
        }
    }
}
