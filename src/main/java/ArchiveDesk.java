import java.util.Arrays;

/**
 * A tape of bytes that can be read as an archive, or written as one: bytes and copies of what
 * came before, in blocks with three trees of codes of their own, as LH5 has them.
 */
public final class ArchiveDesk {
    public static final int NONE = -1;

    private static final int TAPE_ROOM = 4000;
    private static final int WANTED_MOST = 8000;
    // Far above any archive of 4000 bytes: its codes stay below 4900 bytes (a tree of merging
    // spends less than a bit beside the best), its ten blocks below 600 bytes of trees each.
    private static final int MADE_ROOM = 12000;

    private static final int TREE_T = 0;
    private static final int TREE_C = 1;
    private static final int TREE_P = 2;
    private static final int TREES = 3;
    private static final int T_SYMBOLS = 19;
    private static final int C_SYMBOLS = 510;
    private static final int P_SYMBOLS = 14;
    private static final int K_BITS = 16;
    private static final int T_BITS = 5;
    private static final int C_BITS = 9;
    private static final int P_BITS = 4;
    private static final int LONGEST_CODE = 16;

    private static final int LENGTH_BITS = 3;
    private static final int OPEN_LENGTH = 7;
    private static final int GAP_BEHIND = 2;
    private static final int GAP_BITS = 2;
    private static final int GAP_MOST = 3;

    private static final int ZERO = 0;
    private static final int SOME_ZEROS = 1;
    private static final int MANY_ZEROS = 2;
    private static final int SOME_LEAST = 3;
    private static final int SOME_MOST = 18;
    private static final int SOME_BITS = 4;
    private static final int MANY_LEAST = 20;
    private static final int MANY_BITS = 9;
    private static final int LENGTH_SHIFT = 2;

    private static final int BYTES = 256;
    private static final int COPY_SHIFT = 253;
    private static final int COPY_LEAST = 3;
    private static final int COPY_MOST = 256;
    private static final int FARTHEST = 8191;
    private static final int BLOCK_CODES = 400;

    private static final int WELL = 0;
    private static final int BITS_ENDED = 1;
    private static final int BAD_TREE = 2;
    private static final int TOO_MANY = 3;
    private static final int TOO_FAR = 4;
    private static final int TOO_LONG = 5;
    private static final int NO_CODES = 6;

    private final ByteRow tape;
    private final ByteRow product;
    private final Account account;
    private final Unpacker unpacker;
    private final Packer packer;

    public ArchiveDesk() {
        tape = new ByteRow(TAPE_ROOM);
        product = new ByteRow(MADE_ROOM);
        account = new Account();
        unpacker = new Unpacker(tape, product, account);
        packer = new Packer(tape, product, account);
    }

    public int feed(int a, int b, int c, int d, int e) {
        if (!tape.hasRoomFor(20)) {
            return NONE;
        }
        tape.addWord(a);
        tape.addWord(b);
        tape.addWord(c);
        tape.addWord(d);
        tape.addWord(e);
        return tape.count();
    }

    public int fill(int v, int n) {
        if (n < 0 || !isByte(v) || !tape.hasRoomFor(n)) {
            return NONE;
        }
        for (int i = 0; i < n; i++) {
            tape.add(v);
        }
        return tape.count();
    }

    public int peek(int i) {
        return tape.at(i);
    }

    public boolean poke(int i, int v) {
        if (!tape.has(i) || !isByte(v)) {
            return false;
        }
        tape.change(i, v);
        return true;
    }

    public void clear() {
        tape.empty();
    }

    public int read(int n, int size) {
        if (!isOnTape(n) || size < 0 || size > WANTED_MOST) {
            return NONE;
        }
        return unpacker.unpack(n, size);
    }

    public int write(int n) {
        if (!isOnTape(n)) {
            return NONE;
        }
        packer.pack(n);
        return product.count();
    }

    public int back() {
        if (product.count() > TAPE_ROOM) {
            return NONE;
        }
        tape.become(product);
        return tape.count();
    }

    public int made() {
        return product.count();
    }

    public int out(int i) {
        return product.at(i);
    }

    public int told(int what) {
        return account.number(what);
    }

    public int length(int tree, int symbol) {
        if (!account.hasBlock() || tree < 0 || tree >= TREES) {
            return NONE;
        }
        return account.tree(tree).lengthOf(symbol);
    }

    private boolean isOnTape(int n) {
        return n >= 0 && n <= tape.count();
    }

    private static boolean isByte(int v) {
        return v >= 0 && v < BYTES;
    }

    /** Of a symbol of T: how many bits tell how many lengths more there are. */
    private static int bitsBehind(int symbol) {
        return symbol == SOME_ZEROS ? SOME_BITS : symbol == MANY_ZEROS ? MANY_BITS : 0;
    }

    /** Of a symbol of T: how many lengths it tells by itself. */
    private static int leastOf(int symbol) {
        return symbol == SOME_ZEROS ? SOME_LEAST : symbol == MANY_ZEROS ? MANY_LEAST : 1;
    }

    /** A row of bytes with a room that it never leaves. */
    private static final class ByteRow {
        private final int[] bytes;
        private int count;

        ByteRow(int room) {
            bytes = new int[room];
            count = 0;
        }

        int count() {
            return count;
        }

        boolean hasRoomFor(int more) {
            return more <= bytes.length - count;
        }

        boolean has(int i) {
            return i >= 0 && i < count;
        }

        int at(int i) {
            return has(i) ? bytes[i] : NONE;
        }

        void change(int i, int v) {
            if (has(i)) {
                bytes[i] = v;
            }
        }

        void add(int v) {
            if (count < bytes.length) {
                bytes[count] = v;
                count++;
            }
        }

        void mixIntoLast(int bits) {
            if (count > 0) {
                bytes[count - 1] |= bits;
            }
        }

        void addWord(int word) {
            for (int shift = 24; shift >= 0; shift -= 8) {
                add(word >> shift & 255);
            }
        }

        void empty() {
            count = 0;
        }

        void become(ByteRow other) {
            count = Math.min(other.count, bytes.length);
            System.arraycopy(other.bytes, 0, bytes, 0, count);
        }
    }

    /** Lengths of symbols, and the codes that come of them; or one symbol alone. */
    private static final class Tree {
        private final int[] lengths;
        private final int[] codes;
        private final int[] uses;
        private final int[] order;
        private final int[] counts;
        private final int[] firstCodes;
        private final int[] firstPlaces;
        private int alone;

        Tree(int symbols) {
            lengths = new int[symbols];
            codes = new int[symbols];
            uses = new int[symbols];
            order = new int[symbols];
            counts = new int[LONGEST_CODE + 1];
            firstCodes = new int[LONGEST_CODE + 1];
            firstPlaces = new int[LONGEST_CODE + 1];
            alone = NONE;
        }

        void wipe() {
            Arrays.fill(lengths, 0);
            Arrays.fill(uses, 0);
            alone = NONE;
        }

        int symbols() {
            return lengths.length;
        }

        boolean has(int symbol) {
            return symbol >= 0 && symbol < lengths.length;
        }

        int lengthOf(int symbol) {
            return has(symbol) ? lengths[symbol] : NONE;
        }

        int codeOf(int symbol) {
            return has(symbol) ? codes[symbol] : 0;
        }

        int usesOf(int symbol) {
            return has(symbol) ? uses[symbol] : 0;
        }

        int alone() {
            return alone;
        }

        boolean isAlone() {
            return alone != NONE;
        }

        void use(int symbol) {
            if (has(symbol)) {
                uses[symbol]++;
            }
        }

        void setAlone(int symbol) {
            alone = symbol;
        }

        void setLength(int symbol, int length) {
            if (has(symbol) && length >= 0 && length <= LONGEST_CODE) {
                lengths[symbol] = length;
            }
        }

        /** How many lengths there are up to the last one above 0. */
        int lengthsInUse() {
            for (int n = lengths.length; n > 0; n--) {
                if (lengths[n - 1] > 0) {
                    return n;
                }
            }
            return 0;
        }

        /** How many lengths 0 stand in a row from a symbol on, up to a limit. */
        int zerosFrom(int symbol, int limit) {
            for (int n = 0; n < limit; n++) {
                if (lengthOf(symbol + n) != 0) {
                    return n;
                }
            }
            return limit;
        }

        /** Gives the codes; false when the tree is not complete. */
        boolean settle() {
            Arrays.fill(counts, 0);
            for (int length : lengths) {
                counts[length]++;
            }
            int sum = 0;
            int place = 0;
            for (int length = 1; length <= LONGEST_CODE; length++) {
                firstCodes[length] = sum >> LONGEST_CODE - length;
                firstPlaces[length] = place;
                sum += counts[length] << LONGEST_CODE - length;
                place += counts[length];
            }
            if (sum != 1 << LONGEST_CODE) {
                return false;
            }
            number();
            return true;
        }

        private void number() {
            Arrays.fill(counts, 0);
            for (int symbol = 0; symbol < lengths.length; symbol++) {
                int length = lengths[symbol];
                if (length > 0) {
                    codes[symbol] = firstCodes[length] + counts[length];
                    order[firstPlaces[length] + counts[length]] = symbol;
                    counts[length]++;
                }
            }
        }

        /** The symbol whose code these bits are; NONE when there is none of that length. */
        int symbolOf(int code, int length) {
            int offset = code - firstCodes[length];
            if (offset < 0 || offset >= counts[length]) {
                return NONE;
            }
            return order[firstPlaces[length] + offset];
        }
    }

    /** What is told of the latest reading or writing. */
    private static final class Account {
        private final Tree treeT;
        private final Tree treeC;
        private final Tree treeP;
        private boolean opened;
        private int blocks;
        private int codes;
        private int copies;
        private int bits;

        Account() {
            treeT = new Tree(T_SYMBOLS);
            treeC = new Tree(C_SYMBOLS);
            treeP = new Tree(P_SYMBOLS);
            opened = false;
            blocks = 0;
            codes = 0;
            copies = 0;
            bits = 0;
        }

        void open() {
            opened = true;
            blocks = 0;
            codes = 0;
            copies = 0;
            bits = 0;
        }

        void beginBlock() {
            blocks++;
            treeT.wipe();
            treeC.wipe();
            treeP.wipe();
        }

        void countByte() {
            codes++;
        }

        void countCopy() {
            codes++;
            copies++;
        }

        void close(int bitsInAll) {
            bits = bitsInAll;
        }

        boolean hasBlock() {
            return blocks > 0;
        }

        Tree tree(int which) {
            return which == TREE_T ? treeT : which == TREE_C ? treeC : treeP;
        }

        int number(int what) {
            if (!opened) {
                return NONE;
            }
            switch (what) {
                case 0:
                    return blocks;
                case 1:
                    return codes;
                case 2:
                    return copies;
                case 3:
                    return bits;
                default:
                    return NONE;
            }
        }
    }

    /** The bits of the first bytes of a row, one behind the other. */
    private static final class BitSource {
        private final ByteRow row;
        private int end;
        private int taken;

        BitSource(ByteRow row) {
            this.row = row;
            end = 0;
            taken = 0;
        }

        void open(int bytes) {
            end = 8 * Math.min(bytes, row.count());
            taken = 0;
        }

        int taken() {
            return taken;
        }

        /** A number of some bits; NONE when there are not so many: then all count as taken. */
        int take(int bits) {
            if (bits > end - taken) {
                taken = end;
                return NONE;
            }
            int number = 0;
            for (int i = 0; i < bits; i++) {
                number = number << 1 | row.bytes[taken >> 3] >> 7 - (taken & 7) & 1;
                taken++;
            }
            return number;
        }

        /** A symbol by its code; NONE when the bits are at an end. */
        int takeSymbol(Tree tree) {
            if (tree.isAlone()) {
                return tree.alone();
            }
            int code = 0;
            for (int length = 1; length <= LONGEST_CODE; length++) {
                int bit = take(1);
                if (bit == NONE) {
                    return NONE;
                }
                code = code << 1 | bit;
                int symbol = tree.symbolOf(code, length);
                if (symbol != NONE) {
                    return symbol;
                }
            }
            return NONE;
        }

        /** A length as T and P have it; NONE when the bits are at an end; it stops above 16. */
        int takeLength() {
            int length = take(LENGTH_BITS);
            if (length != OPEN_LENGTH) {
                return length;
            }
            for (; length <= LONGEST_CODE; length++) {
                int bit = take(1);
                if (bit == NONE) {
                    return NONE;
                }
                if (bit == 0) {
                    return length;
                }
            }
            return length;
        }

        /** A distance by its symbol and the bits behind; NONE when the bits are at an end. */
        int takeDistance(Tree tree) {
            int symbol = takeSymbol(tree);
            if (symbol == NONE) {
                return NONE;
            }
            if (symbol == 0) {
                return 1;
            }
            int rest = take(symbol - 1);
            return rest == NONE ? NONE : (1 << symbol - 1) + rest + 1;
        }
    }

    /** Reads archives. */
    private static final class Unpacker {
        private final BitSource source;
        private final ByteRow product;
        private final Account account;
        private final Tree treeT;
        private final Tree treeC;
        private final Tree treeP;
        private int wanted;

        Unpacker(ByteRow tape, ByteRow product, Account account) {
            source = new BitSource(tape);
            this.product = product;
            this.account = account;
            treeT = account.tree(TREE_T);
            treeC = account.tree(TREE_C);
            treeP = account.tree(TREE_P);
            wanted = 0;
        }

        int unpack(int bytes, int size) {
            source.open(bytes);
            product.empty();
            account.open();
            wanted = size;
            int fault = WELL;
            // A block without a fault makes a byte at least, so there are no more than bytes.
            for (int block = 0; block < size && fault == WELL && wantsMore(); block++) {
                fault = unpackBlock();
            }
            account.close(source.taken());
            return fault;
        }

        private boolean wantsMore() {
            return product.count() < wanted;
        }

        private int unpackBlock() {
            account.beginBlock();
            int codes = source.take(K_BITS);
            if (codes == NONE) {
                return BITS_ENDED;
            }
            if (codes == 0) {
                return NO_CODES;
            }
            int fault = takeTree(TREE_T, T_BITS);
            if (fault == WELL) {
                fault = takeTree(TREE_C, C_BITS);
            }
            if (fault == WELL) {
                fault = takeTree(TREE_P, P_BITS);
            }
            for (int i = 0; i < codes && fault == WELL && wantsMore(); i++) {
                fault = unpackCode();
            }
            return fault;
        }

        private int takeTree(int which, int bits) {
            Tree tree = account.tree(which);
            int n = source.take(bits);
            if (n == NONE) {
                return BITS_ENDED;
            }
            if (n > tree.symbols()) {
                return TOO_MANY;
            }
            if (n == 0) {
                return takeAlone(tree, bits);
            }
            int fault = which == TREE_C ? takeLengthsByT(n) : takeLengths(tree, n, which == TREE_T);
            if (fault != WELL) {
                return fault;
            }
            return tree.settle() ? WELL : BAD_TREE;
        }

        private int takeAlone(Tree tree, int bits) {
            int symbol = source.take(bits);
            if (symbol == NONE) {
                return BITS_ENDED;
            }
            if (!tree.has(symbol)) {
                return TOO_MANY;
            }
            tree.setAlone(symbol);
            return WELL;
        }

        private int takeLengths(Tree tree, int n, boolean gapped) {
            for (int i = 0; i < n; i++) {
                int length = source.takeLength();
                if (length == NONE) {
                    return BITS_ENDED;
                }
                if (length > LONGEST_CODE) {
                    return BAD_TREE;
                }
                tree.setLength(i, length);
                if (gapped && i == GAP_BEHIND) {
                    int gap = source.take(GAP_BITS);
                    if (gap == NONE) {
                        return BITS_ENDED;
                    }
                    i += gap;
                }
            }
            return WELL;
        }

        private int takeLengthsByT(int n) {
            int known = 0;
            // Each symbol tells a length at least, so there are no more than lengths.
            for (int i = 0; i < n && known < n; i++) {
                int symbol = source.takeSymbol(treeT);
                if (symbol == NONE) {
                    return BITS_ENDED;
                }
                if (symbol > MANY_ZEROS) {
                    treeC.setLength(known, symbol - LENGTH_SHIFT);
                }
                int more = source.take(bitsBehind(symbol));
                if (more == NONE) {
                    return BITS_ENDED;
                }
                known += leastOf(symbol) + more;
            }
            return known > n ? TOO_MANY : WELL;
        }

        private int unpackCode() {
            int symbol = source.takeSymbol(treeC);
            if (symbol == NONE) {
                return BITS_ENDED;
            }
            if (symbol < BYTES) {
                product.add(symbol);
                account.countByte();
                return WELL;
            }
            int distance = source.takeDistance(treeP);
            if (distance == NONE) {
                return BITS_ENDED;
            }
            return distance > product.count() ? TOO_FAR : copy(symbol - COPY_SHIFT, distance);
        }

        private int copy(int length, int distance) {
            account.countCopy();
            int room = wanted - product.count();
            for (int i = 0; i < length && i < room; i++) {
                product.add(product.at(product.count() - distance));
            }
            return length > room ? TOO_LONG : WELL;
        }
    }

    /** Puts bits behind one another onto a row of bytes. */
    private static final class BitSink {
        private final ByteRow row;
        private int given;

        BitSink(ByteRow row) {
            this.row = row;
            given = 0;
        }

        void open() {
            row.empty();
            given = 0;
        }

        int given() {
            return given;
        }

        void give(int number, int bits) {
            for (int i = bits - 1; i >= 0; i--) {
                if ((given & 7) == 0) {
                    row.add(0);
                }
                row.mixIntoLast((number >> i & 1) << 7 - (given & 7));
                given++;
            }
        }

        void giveSymbol(Tree tree, int symbol) {
            if (!tree.isAlone()) {
                give(tree.codeOf(symbol), tree.lengthOf(symbol));
            }
        }

        void giveLength(int length) {
            give(Math.min(length, OPEN_LENGTH), LENGTH_BITS);
            if (length >= OPEN_LENGTH) {
                for (int i = OPEN_LENGTH; i < length; i++) {
                    give(1, 1);
                }
                give(0, 1);
            }
        }

        void giveAlone(int symbol, int bits) {
            give(0, bits);
            give(symbol, bits);
        }
    }

    /** Finds the longest copy at a place, by chains of places whose three bytes may be the same. */
    private static final class CopyFinder {
        private static final int CHAINS = 4096;

        private final ByteRow row;
        private final int[] latest;
        private final int[] earlier;
        private int end;
        private int length;
        private int distance;

        CopyFinder(ByteRow row, int room) {
            this.row = row;
            latest = new int[CHAINS];
            earlier = new int[room];
            end = 0;
            length = 0;
            distance = 0;
        }

        void open(int bytes) {
            end = Math.min(bytes, earlier.length);
            Arrays.fill(latest, NONE);
            for (int place = 0; place + COPY_LEAST <= end; place++) {
                int chain = chainOf(place);
                earlier[place] = latest[chain];
                latest[chain] = place;
            }
        }

        private int chainOf(int place) {
            return row.at(place) * 961 + row.at(place + 1) * 31 + row.at(place + 2) & CHAINS - 1;
        }

        /** True when there is a copy at that place; then its length and distance are known. */
        boolean find(int place) {
            length = COPY_LEAST - 1;
            int limit = Math.min(COPY_MOST, end - place);
            if (place < 0 || limit < COPY_LEAST) {
                return false;
            }
            int from = earlier[place];
            // A chain leads back only, and so from a near place to farther ones.
            for (int i = 0; i < place && from >= 0 && length < limit; i++) {
                if (place - from > FARTHEST) {
                    break;
                }
                int same = sameBytes(from, place, limit);
                if (same > length) {
                    length = same;
                    distance = place - from;
                }
                from = earlier[from];
            }
            return length >= COPY_LEAST;
        }

        private int sameBytes(int from, int place, int limit) {
            for (int n = 0; n < limit; n++) {
                if (row.at(from + n) != row.at(place + n)) {
                    return n;
                }
            }
            return limit;
        }

        int foundLength() {
            return length;
        }

        int foundDistance() {
            return distance;
        }
    }

    /**
     * Gives a tree the lengths that come of merging. Merged nodes rise in weight and in number,
     * and have greater numbers than symbols: so the least node is the first of the symbols in
     * order of weight or the first of the merged ones, the symbol if they weigh the same.
     */
    private static final class Merger {
        private final int[] leaves;
        private final int[] weights;
        private final int[] parents;
        private final int[] depths;
        private int leafCount;
        private int nextLeaf;
        private int nextMerged;
        private int nodeCount;

        Merger(int mostSymbols) {
            leaves = new int[mostSymbols];
            weights = new int[2 * mostSymbols];
            parents = new int[2 * mostSymbols];
            depths = new int[2 * mostSymbols];
            leafCount = 0;
            nextLeaf = 0;
            nextMerged = 0;
            nodeCount = 0;
        }

        void shape(Tree tree) {
            sortLeaves(tree);
            if (leafCount < 2) {
                tree.setAlone(leafCount == 0 ? 0 : leaves[0]);
                return;
            }
            merge(tree.symbols());
            measure(tree);
            tree.settle();
        }

        private void sortLeaves(Tree tree) {
            leafCount = 0;
            for (int symbol = 0; symbol < tree.symbols() && symbol < leaves.length; symbol++) {
                weights[symbol] = tree.usesOf(symbol);
                if (weights[symbol] > 0) {
                    insertLeaf(symbol);
                }
            }
        }

        private void insertLeaf(int symbol) {
            int place = leafCount;
            while (place > 0 && weights[leaves[place - 1]] > weights[symbol]) {
                leaves[place] = leaves[place - 1];
                place--;
            }
            leaves[place] = symbol;
            leafCount++;
        }

        private void merge(int firstNumber) {
            nextLeaf = 0;
            nextMerged = firstNumber;
            nodeCount = firstNumber;
            for (int i = 1; i < leafCount && nodeCount < weights.length; i++) {
                int one = takeLeast();
                int other = takeLeast();
                weights[nodeCount] = weights[one] + weights[other];
                parents[one] = nodeCount;
                parents[other] = nodeCount;
                nodeCount++;
            }
        }

        private int takeLeast() {
            boolean merged = nextMerged < nodeCount;
            boolean leaf = nextLeaf < leafCount;
            if (leaf && (!merged || weights[leaves[nextLeaf]] <= weights[nextMerged])) {
                nextLeaf++;
                return leaves[nextLeaf - 1];
            }
            nextMerged++;
            return nextMerged - 1;
        }

        private void measure(Tree tree) {
            depths[nodeCount - 1] = 0;
            for (int node = nodeCount - 2; node >= tree.symbols(); node--) {
                depths[node] = depths[parents[node]] + 1;
            }
            for (int i = 0; i < leafCount; i++) {
                tree.setLength(leaves[i], depths[parents[leaves[i]]] + 1);
            }
        }
    }

    /** Writes archives. */
    private static final class Packer {
        private final ByteRow tape;
        private final BitSink sink;
        private final Account account;
        private final CopyFinder finder;
        private final Merger merger;
        private final Tree treeT;
        private final Tree treeC;
        private final Tree treeP;
        private final int[] symbols;
        private final int[] distances;
        private int codeCount;
        private final int[] tellers;
        private final int[] extras;
        private int tellerCount;

        Packer(ByteRow tape, ByteRow product, Account account) {
            this.tape = tape;
            this.account = account;
            sink = new BitSink(product);
            finder = new CopyFinder(tape, TAPE_ROOM);
            merger = new Merger(C_SYMBOLS);
            treeT = account.tree(TREE_T);
            treeC = account.tree(TREE_C);
            treeP = account.tree(TREE_P);
            symbols = new int[BLOCK_CODES];
            distances = new int[BLOCK_CODES];
            codeCount = 0;
            tellers = new int[C_SYMBOLS];
            extras = new int[C_SYMBOLS];
            tellerCount = 0;
        }

        void pack(int bytes) {
            sink.open();
            account.open();
            finder.open(bytes);
            int place = 0;
            for (int block = 0; block < bytes && place < bytes; block++) {
                account.beginBlock();
                place = gatherCodes(place, bytes);
                merger.shape(treeC);
                merger.shape(treeP);
                gatherTellers();
                merger.shape(treeT);
                packBlock();
            }
            account.close(sink.given());
        }

        /** The codes of the next block; answers the place behind them. */
        private int gatherCodes(int start, int end) {
            int place = start;
            codeCount = 0;
            for (int i = 0; i < BLOCK_CODES && place < end; i++) {
                if (finder.find(place)) {
                    symbols[i] = finder.foundLength() + COPY_SHIFT;
                    distances[i] = finder.foundDistance();
                    place += finder.foundLength();
                    treeP.use(distanceSymbol(distances[i]));
                    account.countCopy();
                } else {
                    symbols[i] = tape.at(place);
                    place++;
                    account.countByte();
                }
                treeC.use(symbols[i]);
                codeCount++;
            }
            return place;
        }

        private void gatherTellers() {
            tellerCount = 0;
            // C of one symbol has no lengths, and so there is nothing to tell here.
            int n = treeC.lengthsInUse();
            for (int i = 0; i < n; i++) {
                int zeros = treeC.zerosFrom(i, n - i);
                if (zeros == 0) {
                    addTeller(treeC.lengthOf(i) + LENGTH_SHIFT, 0);
                } else {
                    addZeros(zeros);
                    i += zeros - 1;
                }
            }
        }

        private void addZeros(int zeros) {
            if (zeros >= MANY_LEAST) {
                addTeller(MANY_ZEROS, zeros - MANY_LEAST);
            } else if (zeros > SOME_MOST) {
                addTeller(ZERO, 0);
                addTeller(SOME_ZEROS, SOME_MOST - SOME_LEAST);
            } else if (zeros >= SOME_LEAST) {
                addTeller(SOME_ZEROS, zeros - SOME_LEAST);
            } else {
                for (int i = 0; i < zeros; i++) {
                    addTeller(ZERO, 0);
                }
            }
        }

        private void addTeller(int symbol, int extra) {
            if (tellerCount < tellers.length) {
                tellers[tellerCount] = symbol;
                extras[tellerCount] = extra;
                tellerCount++;
                treeT.use(symbol);
            }
        }

        private void packBlock() {
            sink.give(codeCount, K_BITS);
            tellTree(treeT, T_BITS, true);
            tellTreeC();
            tellTree(treeP, P_BITS, false);
            for (int i = 0; i < codeCount; i++) {
                sink.giveSymbol(treeC, symbols[i]);
                if (symbols[i] >= BYTES) {
                    packDistance(distances[i]);
                }
            }
        }

        private void tellTree(Tree tree, int bits, boolean gapped) {
            if (tree.isAlone()) {
                sink.giveAlone(tree.alone(), bits);
                return;
            }
            int n = tree.lengthsInUse();
            sink.give(n, bits);
            for (int i = 0; i < n; i++) {
                sink.giveLength(tree.lengthOf(i));
                if (gapped && i == GAP_BEHIND) {
                    int gap = tree.zerosFrom(i + 1, GAP_MOST);
                    sink.give(gap, GAP_BITS);
                    i += gap;
                }
            }
        }

        private void tellTreeC() {
            if (treeC.isAlone()) {
                sink.giveAlone(treeC.alone(), C_BITS);
                return;
            }
            sink.give(treeC.lengthsInUse(), C_BITS);
            for (int i = 0; i < tellerCount; i++) {
                sink.giveSymbol(treeT, tellers[i]);
                sink.give(extras[i], bitsBehind(tellers[i]));
            }
        }

        private void packDistance(int distance) {
            int symbol = distanceSymbol(distance);
            sink.giveSymbol(treeP, symbol);
            if (symbol > 0) {
                sink.give(distance - 1 - (1 << symbol - 1), symbol - 1);
            }
        }

        private static int distanceSymbol(int distance) {
            for (int symbol = 0; symbol < P_SYMBOLS; symbol++) {
                if (distance <= 1 << symbol) {
                    return symbol;
                }
            }
            return P_SYMBOLS - 1;
        }
    }
}
