import java.util.Random;

/**
 * Promises 1 to 13: runs of calls on the program and on the model, which must answer the same. All
 * is looked at between calls that change something, which is more than the 512 calls of the document:
 * looking changes nothing in this program, so it answers the same behind them.
 */
public final class ModelTest {
    private final Random chance;
    private final ArchiveDesk desk = new ArchiveDesk();
    private final ModelDesk model = new ModelDesk();
    private final String name;
    private int calls = 0;

    private ModelTest(int seed) {
        chance = new Random(seed);
        name = "run " + seed + ", call ";
    }

    public static void main(String[] args) {
        for (int seed = 1; seed <= 400; seed++) {
            ModelTest run = new ModelTest(seed);
            for (int step = 0; step < 40; step++) {
                run.step();
            }
        }
        for (int seed = 1001; seed <= 1040; seed++) {
            new ModelTest(seed).mixedTape();
            new ModelTest(seed).deepTape();
        }
        new ModelTest(1041).wildTape();
        Check.end("ModelTest");
    }

    private void same(String call, long got, long due) {
        calls++;
        Check.same(name + calls + ": " + call, got, due);
    }

    private void step() {
        switch (chance.nextInt(16)) {
            case 0, 1 -> fill(chance.nextInt(260) - 2, chance.nextInt(chance.nextBoolean() ? 9 : 400) - 2);
            case 2, 3, 4 -> feed();
            case 5 -> poke();
            case 6 -> {
                desk.clear();
                model.clear();
            }
            case 7, 8 -> write();
            case 9 -> read();
            case 10 -> same("back", desk.back(), model.back());
            case 11, 12 -> roundTrip();
            case 13, 14 -> handMade();
            default -> bigEdges();
        }
        look();
    }

    private void fill(int v, int n) {
        same("fill " + v + " " + n, desk.fill(v, n), model.fill(v, n));
    }

    /** Words of few kinds of bytes, so that there is something to copy. */
    private void feed() {
        int[] words = new int[5];
        int kinds = 1 + chance.nextInt(4) * chance.nextInt(4) * chance.nextInt(30);
        for (int i = 0; i < 20; i++) {
            words[i / 4] = words[i / 4] << 8 | chance.nextInt(Math.min(kinds, 256));
        }
        same("feed", desk.feed(words[0], words[1], words[2], words[3], words[4]),
            model.feed(words[0], words[1], words[2], words[3], words[4]));
    }

    private int onTape() {
        return model.fill(0, 0);
    }

    private void poke() {
        int i = chance.nextInt(onTape() + 3) - 1;
        int v = chance.nextInt(262) - 3;
        same("poke " + i + " " + v, desk.poke(i, v) ? 1 : 0, model.poke(i, v) ? 1 : 0);
    }

    private void write() {
        int n = chance.nextInt(4) == 0 ? chance.nextInt(onTape() + 3) - 1 : onTape();
        same("write " + n, desk.write(n), model.write(n));
    }

    private void read() {
        int n = chance.nextInt(3) == 0 ? chance.nextInt(onTape() + 3) - 1 : onTape();
        int size = chance.nextInt(3) == 0 ? chance.nextInt(8010) - 4 : chance.nextInt(300);
        same("read " + n + " " + size, desk.read(n, size), model.read(n, size));
    }

    /** Written and read, perhaps with a bit turned, an end missing, or another number wanted. */
    private void roundTrip() {
        int before = onTape();
        same("write", desk.write(before), model.write(before));
        same("back", desk.back(), model.back());
        look();
        int size = before;
        if (chance.nextInt(3) == 0) {
            size = Math.max(0, size + chance.nextInt(9) - 4);
        }
        int n = onTape();
        if (chance.nextInt(3) == 0) {
            n = Math.max(0, n - chance.nextInt(8));
        }
        if (n > 0 && chance.nextBoolean()) {
            int i = chance.nextInt(chance.nextBoolean() ? Math.min(n, 12) : n);
            int v = model.peek(i) ^ 1 << chance.nextInt(8);
            same("poke", desk.poke(i, v) ? 1 : 0, model.poke(i, v) ? 1 : 0);
        }
        same("read " + n + " " + size, desk.read(n, size), model.read(n, size));
    }

    /** Blocks that hold together for the most part, with odd trees, put together by chance. */
    private void handMade() {
        Bits bits = new Bits();
        for (int block = chance.nextInt(3); block >= 0; block--) {
            block(bits);
        }
        for (int i = chance.nextInt(6) * chance.nextInt(40); i > 0; i--) {
            bits.number(chance.nextInt(2), 1);
        }
        desk.clear();
        model.clear();
        for (int i = 0; i < bits.bytes() && i < 4000; i++) {
            desk.fill(bits.byteAt(i), 1);
            model.fill(bits.byteAt(i), 1);
        }
        int size = chance.nextInt(60);
        same("read by hand " + size, desk.read(onTape(), size), model.read(onTape(), size));
    }

    private void block(Bits bits) {
        bits.number(chance.nextInt(20), 16);
        smallTree(bits, 19, 5, true);
        if (chance.nextInt(4) == 0) {
            bits.number(0, 9).number(chance.nextInt(512), 9);
        } else {
            bits.number(chance.nextInt(chance.nextBoolean() ? 20 : 512), 9);
            for (int i = chance.nextInt(100); i > 0; i--) {
                bits.number(chance.nextInt(2), 1);
            }
        }
        smallTree(bits, 14, 4, false);
        for (int i = chance.nextInt(200); i > 0; i--) {
            bits.number(chance.nextInt(2), 1);
        }
    }

    private void smallTree(Bits bits, int symbols, int width, boolean gapped) {
        if (chance.nextInt(5) == 0) {
            bits.number(0, width).number(chance.nextInt(1 << width), width);
            return;
        }
        int n = chance.nextInt(12) == 0 ? chance.nextInt(1 << width) : 2 + chance.nextInt(symbols - 1);
        bits.number(n, width);
        int left = Math.min(n, symbols);
        int deep = 1;
        for (int i = 0; i < left; i++) {
            int length = Math.min(i == left - 1 ? deep - 1 : deep, chance.nextInt(9) == 0 ? 17 : 16);
            if (deep < 2 || chance.nextInt(4) != 0) {
                deep++;
            } else if (i < left - 1) {
                length = 0;
            }
            bits.number(Math.min(length, 7), 3);
            if (length >= 7) {
                bits.plain("1".repeat(length - 7)).plain(length > 16 ? "" : "0");
            }
            if (gapped && i == 2) {
                int z = chance.nextInt(4);
                bits.number(z, 2);
                i += z;
            }
        }
    }

    private void bigEdges() {
        int[] odd = {Integer.MIN_VALUE, Integer.MAX_VALUE, -1, 4000, 4001, 8000, 8001, 0};
        int a = odd[chance.nextInt(odd.length)];
        int b = odd[chance.nextInt(odd.length)];
        same("fill", desk.fill(a, b), model.fill(a, b));
        same("peek", desk.peek(a), model.peek(a));
        same("poke", desk.poke(a, b) ? 1 : 0, model.poke(a, b) ? 1 : 0);
        same("read " + a + " " + b, desk.read(a, b), model.read(a, b));
        same("write", desk.write(a), model.write(a));
        same("out", desk.out(a), model.out(a));
        same("told", desk.told(a), model.told(a));
        same("length", desk.length(a, b), model.length(a, b));
        same("length", desk.length(1, b), model.length(1, b));
    }

    /** Everything that can be seen without a change. */
    private void look() {
        int made = model.made();
        same("made", desk.made(), made);
        for (int i = -1; i <= made; i++) {
            same("out " + i, desk.out(i), model.out(i));
        }
        for (int i = -1; i <= onTape(); i++) {
            same("peek " + i, desk.peek(i), model.peek(i));
        }
        for (int what = -1; what <= 4; what++) {
            same("told " + what, desk.told(what), model.told(what));
        }
        for (int tree = -1; tree <= 3; tree++) {
            int step = tree == 1 ? 1 + chance.nextInt(7) : 1;
            for (int symbol = -1; symbol <= 510; symbol += step) {
                same("length " + tree + " " + symbol, desk.length(tree, symbol), model.length(tree, symbol));
            }
        }
    }

    private void add(int v) {
        Check.same(name + "fill", desk.fill(v, 1), model.fill(v, 1));
    }

    /** Bytes of few or many kinds, some of them again and again. */
    private void mixedTape() {
        int kinds = 1 + chance.nextInt(256);
        int repeat = chance.nextInt(30);
        for (int k = 0; k < 200; k++) {
            boolean again = chance.nextInt(30) < repeat && onTape() > 40;
            int from = again ? chance.nextInt(onTape() - 40) : 0;
            for (int i = 0; i < 20; i++) {
                int v = kinds < 20 ? (int) Math.abs(chance.nextGaussian() * kinds) : chance.nextInt(kinds);
                add(again ? model.peek(from + i) : v);
            }
        }
        writeAndRead();
    }

    /** Nothing to copy: the archive is greater than the tape can be. */
    private void wildTape() {
        for (int i = 0; i < 4000; i++) {
            add(chance.nextInt(256));
        }
        writeAndRead();
    }

    /** Copies of which each length and each distance is half as frequent as another: deep trees. */
    private void deepTape() {
        int farthest = 9 + chance.nextInt(3);
        for (int i = 0; i < 1 << farthest; i++) {
            add(chance.nextInt(256));
        }
        while (onTape() < 3960) {
            int length = 3 + halving();
            int p = Math.max(3, farthest - halving());
            int from = onTape() - (1 << p - 1) - 1 - chance.nextInt(1 << p - 1);
            for (int i = 0; i < length; i++) {
                add(model.peek(from + i));
            }
        }
        writeAndRead();
    }

    private int halving() {
        return Integer.numberOfTrailingZeros(chance.nextInt() | 1 << 12);
    }

    private void writeAndRead() {
        int n = onTape();
        same("write", desk.write(n), model.write(n));
        look();
        int fit = model.back();
        same("back", desk.back(), fit);
        if (fit >= 0) {
            same("read", desk.read(fit, n), 0);
            same("read by the model", model.read(fit, n), 0);
            look();
        }
    }
}
