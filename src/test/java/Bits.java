/** A row of bits, put together by hand, and put onto the tape of a desk. */
final class Bits {
    /** A T, a C and a P of one symbol alone each, for blocks that do not need them. */
    static final String T_OF_0 = "00000 00000";
    static final String C_OF_65 = "000000000 001000001";
    static final String P_OF_0 = "0000 0000";

    private final StringBuilder bits = new StringBuilder();

    /** The beginning of a block of so many codes. */
    static Bits head(int codes) {
        return new Bits().number(codes, 16);
    }

    Bits number(int value, int width) {
        for (int i = width - 1; i >= 0; i--) {
            bits.append((char) ('0' + (value >> i & 1)));
        }
        return this;
    }

    /** Bits as they stand; spaces are for the eye. */
    Bits plain(String text) {
        bits.append(text.replace(" ", ""));
        return this;
    }

    /** K and trees T of symbol 0, C of a symbol and P of a symbol, each alone: 52 bits. */
    Bits loneBlock(int codes, int symbolC, int symbolP) {
        return number(codes, 16).plain(T_OF_0).alone(symbolC, 9).alone(symbolP, 4);
    }

    /** That a tree is of one symbol. */
    Bits alone(int symbol, int width) {
        return number(0, width).number(symbol, width);
    }

    /** A length as T and P have it. */
    Bits length(int length) {
        number(Math.min(length, 7), 3);
        return length < 7 ? this : plain("1".repeat(length - 7)).plain("0");
    }

    /** T by all its lengths; no lengths are left out behind the third one. */
    Bits treeT(int... lengths) {
        number(lengths.length, 5);
        for (int i = 0; i < lengths.length; i++) {
            length(lengths[i]);
            if (i == 2) {
                plain("00");
            }
        }
        return this;
    }

    Bits treeP(int... lengths) {
        number(lengths.length, 4);
        for (int length : lengths) {
            length(length);
        }
        return this;
    }

    /** T of the symbols 3 to 18, of four bits each; by it C, of lengths 1 to 16. */
    Bits trees(int... lengthsOfC) {
        plain("10011 000 000 000 00").plain("100".repeat(16)).number(lengthsOfC.length, 9);
        for (int length : lengthsOfC) {
            number(length - 1, 4);
        }
        return this;
    }

    /** So many blocks of 53 bits, of the byte 65 each, that these bits more end with a byte. */
    static Bits endingWithAByte(Bits tail) {
        Bits all = new Bits();
        while ((all.size() + tail.size()) % 8 != 0) {
            all.shift();
        }
        return all.plain(tail.text());
    }

    /** A block of 53 bits that makes the byte 65. */
    Bits shift() {
        return number(1, 16).plain("00010 001 001").plain(C_OF_65).plain(P_OF_0);
    }

    String text() {
        return bits.toString();
    }

    int size() {
        return bits.length();
    }

    int bytes() {
        return (bits.length() + 7) / 8;
    }

    int byteAt(int i) {
        int value = 0;
        for (int k = 8 * i; k < 8 * i + 8; k++) {
            value = value * 2 + (k < bits.length() ? bits.charAt(k) - '0' : 0);
        }
        return value;
    }

    private int wordAt(int i) {
        return byteAt(i) << 24 | byteAt(i + 1) << 16 | byteAt(i + 2) << 8 | byteAt(i + 3);
    }

    /** The tape of the desk becomes these bits, the last byte filled with 0; by few calls. */
    int onto(ArchiveDesk desk) {
        desk.clear();
        int i = 0;
        for (; i + 20 <= bytes(); i += 20) {
            desk.feed(wordAt(i), wordAt(i + 4), wordAt(i + 8), wordAt(i + 12), wordAt(i + 16));
        }
        for (; i < bytes(); i++) {
            desk.fill(byteAt(i), 1);
        }
        return bytes();
    }
}
