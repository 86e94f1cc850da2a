import java.util.ArrayList;
import java.util.List;

/** Boundary cases of promises 31 to 34: other sizes, fullness and the digest. */
public final class SizesEdgesTest {
    private static final Edges EDGES = new Edges();
    private static final String ARGUMENT = Edges.ARGUMENT;
    private static final String FOUR_LINES = Edges.FOUR_LINES;
    /** Two lines and one page where the page has 30 columns and 8 rows; the reader is in the last word. */
    private static final String[] BOOK = {"type " + FOUR_LINES, "load() = 1", "go(0, 50) = 0", "count(3) = 2"};

    public static void main(String[] args) {
        ifSizeArguments();
        ifSizeAnswers();
        fitArguments();
        fitAnswers();
        fullness();
        digestOfValues();
        digestOfStates();
        digestTells();
        callsOfAnObject();
        EDGES.end();
    }

    private static void edge(String name, String... rows) {
        EDGES.edge(name, Edges.joined(BOOK, rows));
    }

    // ---- promise 31

    private static void ifSizeArguments() {
        edge("promise 31, ifSize: the least width", "still ifSize(18, 8, 0) = 4");
        edge("promise 31, ifSize: just below the least width", "ifSize(17, 8, 0)" + ARGUMENT);
        edge("promise 31, ifSize: the greatest width", "still ifSize(60, 8, 0) = 1");
        edge("promise 31, ifSize: just above the greatest width", "ifSize(61, 8, 0)" + ARGUMENT);
        edge("promise 31, ifSize: the least height", "still ifSize(18, 2, 1) = 2");
        edge("promise 31, ifSize: just below the least height", "ifSize(18, 1, 1)" + ARGUMENT);
        edge("promise 31, ifSize: the greatest height", "still ifSize(18, 20, 1) = 1");
        edge("promise 31, ifSize: just above the greatest height", "ifSize(18, 21, 1)" + ARGUMENT);
        edge("promise 31, ifSize: just below the least number", "ifSize(18, 2, -1)" + ARGUMENT);
        edge("promise 31, ifSize: the greatest number", "still ifSize(18, 2, 2) = 1");
        edge("promise 31, ifSize: just above the greatest number", "ifSize(18, 2, 3)" + ARGUMENT);
        edge("promise 31, ifSize: all out of range", "ifSize(17, 1, -1)" + ARGUMENT, "ifSize(61, 21, 3)" + ARGUMENT);
        edge("promise 31, ifSize: far out", "ifSize(" + Edges.LEAST_INT + ", 8, 0)" + ARGUMENT,
                "ifSize(" + Edges.GREATEST_INT + ", 8, 0)" + ARGUMENT,
                "ifSize(18, " + Edges.LEAST_INT + ", 0)" + ARGUMENT,
                "ifSize(18, " + Edges.GREATEST_INT + ", 0)" + ARGUMENT,
                "ifSize(18, 8, " + Edges.LEAST_INT + ")" + ARGUMENT,
                "ifSize(18, 8, " + Edges.GREATEST_INT + ")" + ARGUMENT);
        EDGES.richEdge("promise 31, ifSize: refused in a full state", "ifSize(17, 2, 0)" + ARGUMENT,
                "ifSize(18, 21, 0)" + ARGUMENT, "ifSize(18, 2, 3)" + ARGUMENT);
    }

    private static void ifSizeAnswers() {
        edge("promise 31, ifSize: nothing is changed", "still ifSize(18, 2, 0) = 4", "still ifSize(18, 2, 1) = 2",
                "still ifSize(18, 2, 2) = 1", "count(3) = 2", "count(4) = 1", "count(5) = 0", "count(6) = 50",
                "shown(0, 7, 29) = 32", "shown(0, 0, 30)" + ARGUMENT);
        edge("promise 31, ifSize: the present size", "ifSize(30, 8, 0) = 2", "ifSize(30, 8, 1) = 1",
                "ifSize(30, 8, 2) = 0");
        edge("promise 31, ifSize: a word just fits the other width", "ifSize(27, 8, 0) = 2", "ifSize(26, 8, 0) = 3",
                "ifSize(25, 8, 0) = 3", "ifSize(24, 8, 0) = 4");
        edge("promise 31, ifSize: the lines just fit the other height", "ifSize(18, 4, 1) = 1", "ifSize(18, 3, 1) = 2",
                "ifSize(18, 4, 2) = 0", "ifSize(18, 3, 2) = 1");
        edge("promise 31, ifSize: the page of the reader, not of the last position", "go(0, 0) = 0",
                "ifSize(18, 2, 2) = 0", "go(0, 25) = 0", "ifSize(18, 2, 2) = 0", "go(0, 26) = 0",
                "ifSize(18, 2, 2) = 1");
        EDGES.edge("promise 31, ifSize: with the present style and notes", "type a^1|b", "load() = 2", "go(1, 0) = 0",
                "type " + FOUR_LINES.substring(0, 25), "setNote(1) = 0", "ifSize(18, 4, 1) = 1", "setStyle(4, 1) = 0",
                "ifSize(18, 4, 1) = 2", "ifSize(18, 5, 1) = 1", "setStyle(2, 1) = 0", "ifSize(18, 5, 1) = 2",
                "ifSize(18, 6, 1) = 1", "ifSize(18, 6, 2) = 0", "removeNote(1) = 2", "ifSize(18, 3, 1) = 1");
        EDGES.edge("promise 31, ifSize: behind an edit", "type a b|c", "load() = 2", "ifSize(18, 2, 0) = 2",
                "split(0, 1) = 3", "ifSize(18, 2, 0) = 3", "ifSize(18, 2, 1) = 2", "undo() = 0",
                "ifSize(18, 2, 0) = 2");
        EDGES.edge("promise 31, ifSize: the least book", "ifSize(18, 2, 0) = 1", "ifSize(18, 2, 1) = 1",
                "ifSize(18, 2, 2) = 0", "ifSize(60, 20, 0) = 1");
    }

    // ---- promise 32

    private static void fitArguments() {
        edge("promise 32, fit: one page", "still fit(1) = 18");
        edge("promise 32, fit: less than one page", "fit(0)" + ARGUMENT, "fit(-1)" + ARGUMENT);
        edge("promise 32, fit: far out", "fit(" + Edges.LEAST_INT + ")" + ARGUMENT,
                "still fit(" + Edges.GREATEST_INT + ") = 18");
        EDGES.richEdge("promise 32, fit: refused in a full state", "fit(0)" + ARGUMENT, "still fit(2) = 18");
    }

    private static void fitAnswers() {
        edge("promise 32, fit: just as many pages", "setSize(60, 2) = 1", "fit(2) = 18", "fit(1) = 27");
        edge("promise 32, fit: the least width that is enough", "setSize(27, 2) = 1", "setSize(26, 2) = 2",
                "fit(1) = 27");
        edge("promise 32, fit: the present width does not count", "setSize(18, 2) = 2", "fit(1) = 27",
                "setSize(60, 2) = 1", "fit(1) = 27");
        edge("promise 32, fit: the present height", "setSize(60, 3) = 1", "fit(1) = 25", "setSize(60, 4) = 1",
                "fit(1) = 18", "setSize(60, 20) = 1", "fit(1) = 18");
        EDGES.edge("promise 32, fit: the greatest width is enough", "type #" + FOUR_LINES + " ffffffff|#b",
                "load() = 2",
                "setSize(60, 3) = 1", "setSize(59, 3) = 2", "still fit(1) = 60", "fit(2) = 21");
        EDGES.edge("promise 32, fit: no width is enough", "type a|b|c", "load() = 3", "setSize(30, 2) = 2",
                "still fit(1) = -1", "fit(2) = 18", "setSize(30, 3) = 1", "fit(1) = 18");
        edge("promise 32, fit: nothing is changed", "still fit(1) = 18", "count(3) = 2", "shown(0, 0, 26) = 99",
                "shown(0, 0, 29) = 32", "shown(0, 0, 30)" + ARGUMENT);
        EDGES.edge("promise 32, fit: with the present style and notes", "type a^1|b", "load() = 2",
                "type " + FOUR_LINES.substring(0, 25), "setNote(1) = 0", "setSize(30, 4) = 1", "fit(1) = 18",
                "setStyle(4, 1) = 0", "fit(1) = 27", "setStyle(2, 1) = 0", "fit(1) = -1", "fit(2) = 18");
        EDGES.edge("promise 32, fit: the least book", "setSize(18, 2) = 1", "fit(1) = 18");
    }

    // ---- promise 33

    private static void fullness() {
        EDGES.edge("promise 33, fullness: only one page", "still fullness() = 0.0", "type a|b", "load() = 2",
                "setSize(18, 2) = 1", "fullness() = 0.0");
        EDGES.edge("promise 33, fullness: two pages, the first one is full", "type a|b|c", "load() = 3",
                "setSize(18, 2) = 2", "still fullness() = 1.0");
        EDGES.edge("promise 33, fullness: the last page does not count", "type a|b|c|d", "load() = 4",
                "setSize(18, 3) = 2", "fullness() = 1.0", "setSize(18, 2) = 2", "fullness() = 1.0");
        EDGES.edge("promise 33, fullness: the rows of gaps count between lines alone", "type a|b|c", "load() = 3",
                "setStyle(2, 1) = 0", "setSize(18, 4) = 2", "fullness() = 0.75", "setSize(18, 3) = 2",
                "fullness() = 1.0");
        EDGES.edge("promise 33, fullness: the least rows", "type a|#b", "load() = 2", "setStyle(2, 2) = 0",
                "setSize(18, 4) = 2", "fullness() = 0.25");
        EDGES.edge("promise 33, fullness: the rows of notes count", "type a^1|b|c", "load() = 3", "type n",
                "setNote(1) = 0", "setStyle(4, 1) = 0", "setSize(18, 4) = 2", "fullness() = 1.0", "setStyle(4, 0) = 1",
                "count(4) = 1", "fullness() = 0.0");
        EDGES.edge("promise 33, fullness: more rows than a page has", "type a^1|b", "load() = 2",
                "type " + FOUR_LINES.substring(0, 25), "setNote(1) = 0", "setStyle(4, 1) = 0", "setSize(18, 2) = 2",
                "fullness() = 2.0", "setSize(18, 3) = 2", "fullness() = " + 4.0 / 3.0);
        EDGES.edge("promise 33, fullness: several pages", "type a|#b|c|d|e|f", "load() = 6", "setSize(18, 2) = 4",
                "page(0, 3) = 1", "page(1, 3) = 2", "page(2, 3) = 2", "fullness() = " + 5.0 / 6.0);
        EDGES.edge("promise 33, fullness: the most pages", "type " + Edges.TEN_PARAGRAPHS, "load() = 10",
                "setStyle(2, 2) = 0", "setSize(18, 3) = 10", "fullness() = " + 9.0 / 27.0, "setSize(18, 2) = 10",
                "fullness() = 0.5");
        EDGES.edge("promise 33, fullness: a second page by the last call alone", "type a|b", "load() = 2",
                "setSize(18, 2) = 1", "setStyle(2, 1) = 0", "fullness() = 0.5", "setStyle(2, 0) = 1",
                "fullness() = 0.0");
        EDGES.richEdge("promise 33, fullness: nothing is changed by it", "still fullness() = " + 5.0 / 6.0);
    }

    // ---- promise 34

    private static long hash(List<Integer> values) {
        long hash = 1931;
        for (int value : values) {
            hash = 31 * hash + value;
        }
        return hash;
    }

    private static void add(List<Integer> values, Run run, String call, int properties) {
        for (int what = 0; what < properties; what++) {
            values.add(run.number(call + what + ")"));
        }
    }

    /** The digest by the document's words: each value is asked for; the others are told by the test. */
    private static long told(String[] rows, int[] sizeAndStyle, int[] wordsOfNotes, String buffer) {
        Run run = Run.of(rows, rows.length);
        List<Integer> values = new ArrayList<>();
        add(values, run, "count(", 12);
        for (int value : sizeAndStyle) {
            values.add(value);
        }
        for (int paragraph = 0; paragraph < run.number("count(0)"); paragraph++) {
            add(values, run, "paragraph(" + paragraph + ", ", 5);
            int length = run.number("paragraph(" + paragraph + ", 2)");
            for (int offset = 0; offset < length; offset++) {
                values.add(run.number("letter(" + paragraph + ", " + offset + ")"));
            }
        }
        for (int line = 0; line < run.number("count(3)"); line++) {
            add(values, run, "line(" + line + ", ", 6);
        }
        for (int page = 0; page < run.number("count(4)"); page++) {
            add(values, run, "page(" + page + ", ", 7);
        }
        for (int annotation = 0; annotation < run.number("count(7)"); annotation++) {
            add(values, run, "annotation(" + annotation + ", ", 6);
        }
        for (int words : wordsOfNotes) {
            values.add(words);
        }
        values.add(buffer.length());
        for (char sign : buffer.toCharArray()) {
            values.add((int) sign);
        }
        return hash(values);
    }

    private static void digestOfValues() {
        long due = hash(List.of(1, 1, 1, 1, 1, 0, 0, 0, 0, 0, 0, 0, 30, 8, 2, 4, 0, 0, 0, 0, 1, 1, 1, 0, 97, 0, 0, 1, 3,
                0, 0, 0, -1, 1, 1, 0, 0, 0, 0, 0, 0, 0, 0, 0, 0, 0, 0, 0, 0));
        EDGES.edge("promise 34, digest: a new object", "still digest() = " + due, "digest() = " + due);
        EDGES.due("promise 34, digest: the hash is a long that went over its end", due > Integer.MAX_VALUE || due < 0,
                true);
    }

    private static void digestEdge(String name, String[] rows, int[] sizeAndStyle, int[] notes, String buffer) {
        String[] all = buffer.isEmpty() ? rows : Edges.joined(rows, "type " + buffer);
        EDGES.edge("promise 34, digest: " + name,
                Edges.joined(all, "still digest() = " + told(all, sizeAndStyle, notes, buffer)));
    }

    private static void digestOfStates() {
        int[] noNotes = new int[10];
        int[] newSize = {30, 8, 2, 4, 0, 0, 0};
        digestEdge("the values of a new object", new String[0], newSize, noNotes, "");
        digestEdge("a full buffer", new String[0], newSize, noNotes, "~ ".repeat(50));
        digestEdge("one character in the buffer", new String[0], newSize, noNotes, " ");
        digestEdge("the least size", new String[] {"setSize(18, 2) = 1"}, new int[] {18, 2, 2, 4, 0, 0, 0}, noNotes,
                "");
        digestEdge("the greatest size and style", new String[] {"setSize(60, 20) = 1", "setStyle(0, 4) = 2",
            "setStyle(1, 3) = 4", "setStyle(2, 2) = 0", "setStyle(3, 1) = 0", "setStyle(4, 1) = 0"},
                new int[] {60, 20, 4, 3, 2, 1, 1}, noNotes, "");
        digestEdge("the first and the last note", new String[] {"type " + Edges.TWELVE_WORDS, "setNote(0) = 0",
            "type n", "setNote(9) = 0"}, newSize, new int[] {12, 0, 0, 0, 0, 0, 0, 0, 0, 1}, "");
        digestEdge("ten paragraphs on ten pages", new String[] {"type " + Edges.TEN_PARAGRAPHS, "load() = 10",
            "setStyle(2, 2) = 0", "setSize(18, 2) = 10"}, new int[] {18, 2, 2, 4, 2, 0, 0}, noNotes, "");
        String[] twelve = {"type ab cd", "load() = 1"};
        for (int made = 0; made < 12; made++) {
            twelve = Edges.joined(twelve, "annotate(0, " + made % 5 + ", 5, " + made % 8 + ") = " + made);
        }
        digestEdge("twelve annotations", twelve, newSize, noNotes, "");
        digestEdge("twelve annotations, some of them lost", Edges.joined(twelve, "delete(0, 1, 1) = 1"), newSize,
                noNotes,
                "");
        digestEdge("jumps and edits", new String[] {"type a b|>c d", "load() = 2", "go(1, 2) = 0", "go(0, 2) = 0",
            "split(0, 1) = 3", "join(1) = 3"}, newSize, noNotes, "x|");
        digestEdge("footnotes, pages and a heading", new String[] {"type #A^3|b c^1 d|e", "load() = 3", "type n o p",
            "setNote(1) = 0", "setStyle(4, 1) = 0", "setStyle(3, 1) = 0", "setSize(20, 4) = 2"},
                new int[] {20, 4, 2, 4, 0, 1, 1}, new int[] {0, 3, 0, 0, 0, 0, 0, 0, 0, 0}, "");
    }

    /** Two states that differ in one value alone have different digests. */
    private static void differs(String name, String[] first, String[] second) {
        EDGES.due("promise 34, digest: it tells " + name + " apart",
                Run.of(first, first.length).ask("digest()").equals(Run.of(second, second.length).ask("digest()")),
                false);
    }

    private static void digestTells() {
        differs("two characters of the buffer", new String[] {"type a"}, new String[] {"type b"});
        differs("an empty buffer and a blank", new String[0], new String[] {"type  "});
        differs("two notes of one word", new String[] {"type n", "setNote(0) = 0"},
                new String[] {"type n", "setNote(9) = 0"});
        differs("two widths", new String[] {"setSize(18, 2) = 1"}, new String[] {"setSize(19, 2) = 1"});
        differs("two heights", new String[] {"setSize(18, 2) = 1"}, new String[] {"setSize(18, 3) = 1"});
        differs("keeping on and off", new String[0], new String[] {"setStyle(3, 1) = 0"});
        differs("two colors", new String[] {"annotate(0, 0, 1, 0) = 0"}, new String[] {"annotate(0, 0, 1, 1) = 0"});
        differs("a jump and none", new String[0], new String[] {"go(0, 0) = 0"});
        differs("two words", new String[] {"type a", "load() = 1"}, new String[] {"type b", "load() = 1"});
    }

    // ---- the number of calls

    private static void callsOfAnObject() {
        Run run = new Run();
        String due = run.ask("digest()");
        for (int call = 1; call < 511; call += 2) {
            run.ask("append(97)");
            run.ask("clearInput()");
        }
        EDGES.due("promise 34, digest: the five hundred and twelfth call of an object", run.ask("digest()"), due);
    }
}
