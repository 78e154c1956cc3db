/** A row of bits, put together by hand, and put onto the tape of a desk. */
final class Bits {
    private final StringBuilder bits = new StringBuilder();

    Bits number(int value, int width) {
        for (int i = width - 1; i >= 0; i--) {
            bits.append((char) ('0' + (value >> i & 1)));
        }
        return this;
    }

    /** Bits as they stand; spaces are for the eye. */
    Bits plain(String text) {
        bits.append(text.replace(" ", ""));
        return this;
    }

    /** K and trees T of symbol 0, C of a symbol and P of a symbol, each alone. */
    Bits loneBlock(int codes, int symbolC, int symbolP) {
        return number(codes, 16).number(0, 10).number(0, 9).number(symbolC, 9)
            .number(0, 4).number(symbolP, 4);
    }

    int size() {
        return bits.length();
    }

    int bytes() {
        return (bits.length() + 7) / 8;
    }

    int byteAt(int i) {
        int value = 0;
        for (int k = 8 * i; k < 8 * i + 8; k++) {
            value = value * 2 + (k < bits.length() ? bits.charAt(k) - '0' : 0);
        }
        return value;
    }

    /** The tape of the desk becomes these bits, the last byte filled with 0. */
    int onto(ArchiveDesk desk) {
        desk.clear();
        for (int i = 0; i < bytes(); i++) {
            desk.fill(byteAt(i), 1);
        }
        return bytes();
    }
}
