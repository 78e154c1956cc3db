import java.util.ArrayList;
import java.util.List;

/** What can be seen of a desk without changing it, by few calls: an object has 512 of them. */
final class Seen {
    private final List<String> calls = new ArrayList<>();
    private final List<Integer> answers = new ArrayList<>();

    private Seen() {
    }

    static Seen of(ArchiveDesk desk) {
        Seen seen = new Seen();
        int count = desk.fill(0, 0);
        int made = desk.made();
        seen.add("fill(0, 0)", count);
        seen.add("made()", made);
        for (int i : places(count)) {
            seen.add("peek(" + i + ")", desk.peek(i));
        }
        for (int i : places(made)) {
            seen.add("out(" + i + ")", desk.out(i));
        }
        for (int what = 0; what < 4; what++) {
            seen.add("told(" + what + ")", desk.told(what));
        }
        for (int symbol : new int[] {0, 1, 2, 3, 4, 5, 8, 13, 18, 65, 66, 255, 256, 259, 509}) {
            for (int tree = 0; tree < 3; tree++) {
                seen.add("length(" + tree + ", " + symbol + ")", desk.length(tree, symbol));
            }
        }
        return seen;
    }

    /** The first places of a row, its last ones, and the first one behind it. */
    private static int[] places(int count) {
        return new int[] {0, 1, 2, 3, 4, 5, 6, 7, count / 2, count - 3, count - 2, count - 1, count};
    }

    private void add(String call, int answer) {
        calls.add(call);
        answers.add(answer);
    }

    /** That a desk still answers all of this. */
    void still(String name, ArchiveDesk desk) {
        Seen now = of(desk);
        for (int i = 0; i < answers.size(); i++) {
            Check.same(name + ", then " + calls.get(i), now.answers.get(i), answers.get(i));
        }
    }
}
