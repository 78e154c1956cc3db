import java.util.ArrayList;
import java.util.Arrays;
import java.util.HashMap;
import java.util.List;
import java.util.Map;
import java.util.PriorityQueue;

/**
 * The document once more, slow and by other means than the program: bits are texts, faults are
 * exceptions, codes are a map, copies are sought at every distance, merging is done by a queue.
 */
final class ModelDesk {
    private static final int[] SYMBOLS = {19, 510, 14};
    private static final int[] COUNT_BITS = {5, 9, 4};

    private static final class Fault extends RuntimeException {
        private static final long serialVersionUID = 1L;
        final int kind;

        Fault(int kind) {
            this.kind = kind;
        }
    }

    private record Node(int weight, int number, List<Integer> symbols) {
    }

    private List<Integer> tape = new ArrayList<>();
    private List<Integer> made = new ArrayList<>();
    private int[] told = null;
    private int[][] lengths = new int[3][];
    private final List<Map<String, Integer>> codes = new ArrayList<>(Arrays.asList(null, null, null));
    private String bits = "";
    private int at = 0;
    private final StringBuilder sink = new StringBuilder();

    int feed(int a, int b, int c, int d, int e) {
        if (tape.size() + 20 > 4000) {
            return -1;
        }
        for (int word : new int[] {a, b, c, d, e}) {
            tape.add(word >>> 24);
            tape.add(word >>> 16 & 255);
            tape.add(word >>> 8 & 255);
            tape.add(word & 255);
        }
        return tape.size();
    }

    int fill(int v, int n) {
        if (v < 0 || v > 255 || n < 0 || (long) n + tape.size() > 4000) {
            return -1;
        }
        for (int i = 0; i < n; i++) {
            tape.add(v);
        }
        return tape.size();
    }

    int peek(int i) {
        return i < 0 || i >= tape.size() ? -1 : tape.get(i);
    }

    boolean poke(int i, int v) {
        if (i < 0 || i >= tape.size() || v < 0 || v > 255) {
            return false;
        }
        tape.set(i, v);
        return true;
    }

    void clear() {
        tape.clear();
    }

    int back() {
        if (made.size() > 4000) {
            return -1;
        }
        tape = new ArrayList<>(made);
        return tape.size();
    }

    int made() {
        return made.size();
    }

    int out(int i) {
        return i < 0 || i >= made.size() ? -1 : made.get(i);
    }

    int told(int what) {
        return told == null || what < 0 || what > 3 ? -1 : told[what];
    }

    int length(int tree, int symbol) {
        if (told == null || told[0] == 0 || tree < 0 || tree > 2) {
            return -1;
        }
        return symbol < 0 || symbol >= SYMBOLS[tree] ? -1 : lengths[tree][symbol];
    }

    private void beginBlock() {
        told[0]++;
        for (int tree = 0; tree < 3; tree++) {
            lengths[tree] = new int[SYMBOLS[tree]];
        }
    }

    // Reading

    int read(int n, int size) {
        if (n < 0 || n > tape.size() || size < 0 || size > 8000) {
            return -1;
        }
        StringBuilder text = new StringBuilder();
        for (int i = 0; i < n; i++) {
            text.append(Integer.toBinaryString(256 + tape.get(i)).substring(1));
        }
        bits = text.toString();
        at = 0;
        told = new int[4];
        made = new ArrayList<>();
        int fault = 0;
        try {
            while (made.size() < size) {
                readBlock(size);
            }
        } catch (Fault f) {
            fault = f.kind;
        }
        told[3] = at;
        return fault;
    }

    private void readBlock(int size) {
        beginBlock();
        int k = take(16);
        if (k == 0) {
            throw new Fault(6);
        }
        for (int tree = 0; tree < 3; tree++) {
            readTree(tree);
        }
        for (int i = 0; i < k && made.size() < size; i++) {
            readCode(size);
        }
    }

    private int take(int width) {
        int value = 0;
        for (int i = 0; i < width; i++) {
            if (at == bits.length()) {
                throw new Fault(1);
            }
            value = 2 * value + (bits.charAt(at) - '0');
            at++;
        }
        return value;
    }

    private void readTree(int tree) {
        int n = take(COUNT_BITS[tree]);
        if (n > SYMBOLS[tree]) {
            throw new Fault(3);
        }
        if (n == 0) {
            int symbol = take(COUNT_BITS[tree]);
            if (symbol >= SYMBOLS[tree]) {
                throw new Fault(3);
            }
            codes.set(tree, Map.of("", symbol));
            return;
        }
        if (tree == 1) {
            readLengthsOfC(n);
        } else {
            readLengths(tree, n);
        }
        if (kraft(lengths[tree]) != 1.0) {
            throw new Fault(2);
        }
        Map<String, Integer> byCode = new HashMap<>();
        codesOf(lengths[tree]).forEach((symbol, code) -> byCode.put(code, symbol));
        codes.set(tree, byCode);
    }

    private static double kraft(int[] lengths) {
        return Arrays.stream(lengths).filter(l -> l > 0).mapToDouble(l -> Math.pow(2, -l)).sum();
    }

    private void readLengths(int tree, int n) {
        int i = 0;
        while (i < n) {
            int length = take(3);
            if (length == 7) {
                while (take(1) == 1) {
                    length++;
                    if (length > 16) {
                        throw new Fault(2);
                    }
                }
            }
            lengths[tree][i] = length;
            i++;
            if (tree == 0 && i == 3) {
                i += take(2);
            }
        }
    }

    private void readLengthsOfC(int n) {
        int i = 0;
        while (i < n) {
            int symbol = takeSymbol(0);
            if (symbol == 0) {
                i++;
            } else if (symbol == 1) {
                i += 3 + take(4);
            } else if (symbol == 2) {
                i += 20 + take(9);
            } else {
                lengths[1][i] = symbol - 2;
                i++;
            }
            if (i > n) {
                throw new Fault(3);
            }
        }
    }

    private int takeSymbol(int tree) {
        String code = "";
        while (!codes.get(tree).containsKey(code)) {
            code += take(1);
        }
        return codes.get(tree).get(code);
    }

    private void readCode(int size) {
        int symbol = takeSymbol(1);
        if (symbol < 256) {
            made.add(symbol);
            told[1]++;
            return;
        }
        int p = takeSymbol(2);
        int distance = p == 0 ? 1 : (int) Math.pow(2, p - 1) + take(p - 1) + 1;
        if (distance > made.size()) {
            throw new Fault(4);
        }
        told[1]++;
        told[2]++;
        for (int i = 0; i < symbol - 253; i++) {
            if (made.size() == size) {
                throw new Fault(5);
            }
            made.add(made.get(made.size() - distance));
        }
    }

    /** Codes by symbol, by the words of the document: the one before and 1, and 0 behind. */
    private static Map<Integer, String> codesOf(int[] lengths) {
        Map<Integer, String> byCode = new HashMap<>();
        String before = null;
        for (int length = 1; length <= 16; length++) {
            for (int symbol = 0; symbol < lengths.length; symbol++) {
                if (lengths[symbol] == length) {
                    String code = before == null ? "" : plusOne(before);
                    before = code + "0".repeat(length - code.length());
                    byCode.put(symbol, before);
                }
            }
        }
        return byCode;
    }

    private static String plusOne(String code) {
        int last = code.lastIndexOf('0');
        return code.substring(0, last) + "1" + "0".repeat(code.length() - last - 1);
    }

    // Writing

    int write(int n) {
        if (n < 0 || n > tape.size()) {
            return -1;
        }
        told = new int[4];
        sink.setLength(0);
        List<int[]> all = findCodes(n);
        for (int from = 0; from < all.size(); from += 400) {
            writeBlock(all.subList(from, Math.min(from + 400, all.size())));
        }
        told[3] = sink.length();
        while (sink.length() % 8 != 0) {
            sink.append('0');
        }
        made = new ArrayList<>();
        for (int i = 0; i < sink.length(); i += 8) {
            made.add(Integer.parseInt(sink.substring(i, i + 8), 2));
        }
        return made.size();
    }

    /** Each code: a byte and 0, or the symbol of a copy and its distance. */
    private List<int[]> findCodes(int n) {
        List<int[]> all = new ArrayList<>();
        int place = 0;
        while (place < n) {
            int best = 0;
            int bestDistance = 0;
            for (int distance = 1; distance <= Math.min(8191, place); distance++) {
                int same = 0;
                while (same < 256 && place + same < n
                    && tape.get(place + same).equals(tape.get(place + same - distance))) {
                    same++;
                }
                if (same > best) {
                    best = same;
                    bestDistance = distance;
                }
            }
            told[1]++;
            if (best >= 3) {
                told[2]++;
                all.add(new int[] {best + 253, bestDistance});
                place += best;
            } else {
                all.add(new int[] {tape.get(place), 0});
                place++;
            }
        }
        return all;
    }

    private void writeBlock(List<int[]> block) {
        beginBlock();
        int[] timesC = new int[510];
        int[] timesP = new int[14];
        for (int[] code : block) {
            timesC[code[0]]++;
            if (code[1] > 0) {
                timesP[symbolOfDistance(code[1])]++;
            }
        }
        int aloneC = shape(1, timesC);
        int aloneP = shape(2, timesP);
        List<int[]> tellers = tellersOfC();
        int[] timesT = new int[19];
        tellers.forEach(teller -> timesT[teller[0]]++);
        int aloneT = shape(0, timesT);

        put(block.size(), 16);
        putSmallTree(0, aloneT);
        if (aloneC >= 0) {
            put(0, 9);
            put(aloneC, 9);
        } else {
            put(lastOf(lengths[1]), 9);
            for (int[] teller : tellers) {
                putSymbol(0, teller[0]);
                put(teller[1], teller[0] == 1 ? 4 : teller[0] == 2 ? 9 : 0);
            }
        }
        putSmallTree(2, aloneP);
        for (int[] code : block) {
            putSymbol(1, code[0]);
            if (code[1] > 0) {
                int p = symbolOfDistance(code[1]);
                putSymbol(2, p);
                put(code[1] - 1, p - 1);
            }
        }
    }

    private static int symbolOfDistance(int distance) {
        return distance == 1 ? 0 : Integer.toBinaryString(distance - 1).length();
    }

    /** Gives the lengths; answers the symbol that is alone, or -1. */
    private int shape(int tree, int[] times) {
        PriorityQueue<Node> nodes = new PriorityQueue<>((x, y) -> x.weight() != y.weight()
            ? Integer.compare(x.weight(), y.weight()) : Integer.compare(x.number(), y.number()));
        for (int symbol = 0; symbol < times.length; symbol++) {
            if (times[symbol] > 0) {
                nodes.add(new Node(times[symbol], symbol, List.of(symbol)));
            }
        }
        codes.set(tree, null);
        if (nodes.size() < 2) {
            return nodes.isEmpty() ? 0 : nodes.peek().number();
        }
        for (int number = times.length; nodes.size() > 1; number++) {
            Node one = nodes.poll();
            Node other = nodes.poll();
            List<Integer> both = new ArrayList<>(one.symbols());
            both.addAll(other.symbols());
            both.forEach(symbol -> lengths[tree][symbol]++);
            nodes.add(new Node(one.weight() + other.weight(), number, both));
        }
        return -1;
    }

    private List<int[]> tellersOfC() {
        List<int[]> tellers = new ArrayList<>();
        int zeros = 0;
        for (int i = 0; i < lastOf(lengths[1]); i++) {
            if (lengths[1][i] == 0) {
                zeros++;
                continue;
            }
            if (zeros >= 20) {
                tellers.add(new int[] {2, zeros - 20});
            } else if (zeros == 19) {
                tellers.add(new int[] {0, 0});
                tellers.add(new int[] {1, 15});
            } else if (zeros >= 3) {
                tellers.add(new int[] {1, zeros - 3});
            } else {
                for (int k = 0; k < zeros; k++) {
                    tellers.add(new int[] {0, 0});
                }
            }
            zeros = 0;
            tellers.add(new int[] {lengths[1][i] + 2, 0});
        }
        return tellers;
    }

    private static int lastOf(int[] lengths) {
        int n = lengths.length;
        while (n > 0 && lengths[n - 1] == 0) {
            n--;
        }
        return n;
    }

    private void putSmallTree(int tree, int alone) {
        int width = COUNT_BITS[tree];
        if (alone >= 0) {
            put(0, width);
            put(alone, width);
            return;
        }
        int[] all = lengths[tree];
        put(lastOf(all), width);
        int i = 0;
        while (i < lastOf(all)) {
            if (all[i] < 7) {
                put(all[i], 3);
            } else {
                sink.append("111").append("1".repeat(all[i] - 7)).append('0');
            }
            i++;
            if (tree == 0 && i == 3) {
                int z = 0;
                while (z < 3 && all[3 + z] == 0) {
                    z++;
                }
                put(z, 2);
                i += z;
            }
        }
    }

    /** The lowest bits of a number; a width below 1 puts nothing. */
    private void put(int value, int width) {
        for (int i = width - 1; i >= 0; i--) {
            sink.append(value >> i & 1);
        }
    }

    private void putSymbol(int tree, int symbol) {
        if (lengths[tree][symbol] > 0) {
            sink.append(codesOf(lengths[tree]).get(symbol));
        }
    }
}
