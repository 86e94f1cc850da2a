import java.util.ArrayList;
import java.util.Arrays;
import java.util.HashSet;
import java.util.List;
import java.util.Set;

/**
 * Boundary cases of the document: each one has a name, made of the promise and the case, and a run of its own
 * on a new object. Rows are written as for Script. A row that throws changes nothing, and neither does one that
 * is written with "still " before it: all that can be seen of the object is then the same with and without it.
 */
final class Edges {
    static final String INDEX = " = throws IndexOutOfBoundsException";
    static final String ARGUMENT = " = throws IllegalArgumentException";
    static final String STATE = " = throws IllegalStateException";

    static final int LEAST_INT = Integer.MIN_VALUE;
    static final int GREATEST_INT = Integer.MAX_VALUE;

    /** Twelve words, as many as a word list may have. */
    static final String TWELVE_WORDS = "a b c d e f g h i j k l";
    static final String TEN_PARAGRAPHS = "a|b|c|d|e|f|g|h|i|j";
    /** Four words, each of which takes a line of its own where the page has 18 columns. */
    static final String FOUR_LINES = "bbbbbbbbbbbb cccccccccccc dddddddddddd eeeeeeeeeeee";

    private static final String SIX_LONGEST_WORDS = "abcdefghijkl^0 abcdefghijkl^1 abcdefghijkl^2 abcdefghijkl^3 "
            + "abcdefghijkl^4 abcdefghijkl^5";
    /** Ten paragraphs, of which the last one is as long as one may be: 24 words of 14 characters. */
    static final String[] LONGEST = {
        "type " + TEN_PARAGRAPHS, "load() = 10", "type " + SIX_LONGEST_WORDS, "insert(9, 0) = 7",
        "type " + SIX_LONGEST_WORDS, "insert(9, 6) = 13", "type " + SIX_LONGEST_WORDS, "insert(9, 12) = 19",
        "delete(9, 18, 1) = 18", "type " + SIX_LONGEST_WORDS, "insert(9, 18) = 24",
    };

    /**
     * A state in which everything there is has a value: the paragraphs "Top" (a heading), "ab^1", "ef" and "gh"
     * (a quote), the notes 1 and 9, two jumps, two edits, three annotations, of which number 0 is lost, a style
     * and a size of its own, two pages, and "x y" in the buffer.
     */
    private static final String[] RICH = {
        "type #Top|ab^1 cd ef|>gh", "load() = 3", "type note one", "setNote(1) = 0", "type see", "setNote(9) = 0",
        "annotate(1, 5, 7, 3) = 0", "annotate(1, 0, 10, 7) = 1", "annotate(2, 1, 2, 0) = 2", "go(1, 8) = 0",
        "go(2, 1) = 0", "setStyle(0, 1) = 2", "setStyle(1, 3) = 4", "setStyle(2, 1) = 0", "setStyle(3, 1) = 0",
        "setStyle(4, 1) = 0", "setSize(20, 6) = 2", "delete(1, 1, 1) = 2", "split(1, 1) = 4", "type x y",
    };

    private final Set<String> names = new HashSet<>();
    private int wrong;

    void edge(String name, String... rows) {
        due(name + " is a name of its own", names.add(name), true);
        play(name, rows, false, false);
        if (Run.callsOf(rows) + rows.length <= Run.MOST_CALLS) {
            play(name + " (a digest before even rows)", rows, true, false);
            play(name + " (a digest before odd rows)", rows, false, true);
        }
        for (int row = 0; row < rows.length; row++) {
            if (rows[row].startsWith("still ") || rows[row].contains(" = throws ")) {
                due(name + ", row " + row + ": " + rows[row] + " changes nothing",
                        Run.seen(rows, row + 1), Run.seen(rows, row));
            }
        }
    }

    /** With digests before some rows, an answer that was true before the last change is seen as a wrong one. */
    private void play(String name, String[] rows, boolean beforeEven, boolean beforeOdd) {
        Run run = new Run();
        for (int row = 0; row < rows.length; row++) {
            if (row % 2 == 0 ? beforeEven : beforeOdd) {
                run.ask("digest()");
            }
            String[] told = run.play(rows[row]);
            due(name + ", row " + row + ": " + rows[row], told[0], told[1]);
        }
    }

    /** A case in the state in which everything there is has a value. */
    void richEdge(String name, String... rows) {
        edge(name, joined(RICH, rows));
    }

    static String[] joined(String[] before, String... rows) {
        List<String> all = new ArrayList<>(Arrays.asList(before));
        all.addAll(Arrays.asList(rows));
        return all.toArray(new String[0]);
    }

    void due(String name, Object got, Object want) {
        if (!want.equals(got)) {
            wrong++;
            System.out.println(name + ": answered " + got + ", due is " + want);
        }
    }

    /** Ends the test: with exit code 1 if a case does not hold. */
    void end() {
        System.out.println(wrong == 0 ? "all " + names.size() + " cases hold" : wrong + " answers are not as due");
        if (wrong != 0) {
            System.exit(1);
        }
    }
}
