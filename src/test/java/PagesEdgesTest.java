/** Boundary cases of promises 8 to 15: sizes, styles, pages and lines. */
public final class PagesEdgesTest {
    private static final Edges EDGES = new Edges();
    private static final String INDEX = Edges.INDEX;
    private static final String ARGUMENT = Edges.ARGUMENT;
    private static final String TEN_PARAGRAPHS = Edges.TEN_PARAGRAPHS;
    private static final String FOUR_LINES = Edges.FOUR_LINES;
    private static final String THREE_LINES = FOUR_LINES.substring(0, 38);
    private static final String TWO_LINES = FOUR_LINES.substring(0, 25);
    /** A text of a note that takes two lines, with its digit, where the page has 18 columns. */
    private static final String TWO_LINE_NOTE = "cccccccccccc dddddddddddd";
    private static final String TEN_REFERENCES = "j^9 i^8 h^7 g^6 f^5 e^4 d^3 c^2 b^1 a^0";
    /** Words of seven signs: where a quote with indent 4 is shown in 18 columns, each takes a line. */
    private static final String TWELVE_LINES = "abcdefg " + "abcdefg ".repeat(10) + "abcdefg";

    public static void main(String[] args) {
        setSizeRange();
        setSizeRest();
        setStyleRange();
        setStyleRest();
        pageArguments();
        pageFirstAndLast();
        pageFull();
        gaps();
        notesOfPages();
        tooManyRows();
        keepingHeadings();
        keepingLines();
        keepingChoice();
        annotationsOfPages();
        lineArguments();
        lineFits();
        lineIndents();
        lineProperties();
        shownArguments();
        shownText();
        shownNotes();
        noteOn();
        pageOf();
        floatingArguments();
        floatingForwards();
        floatingBackwards();
        EDGES.end();
    }

    // ---- promise 8

    private static void setSizeRange() {
        EDGES.edge("promise 8, setSize: the least width", "setSize(18, 8) = 1", "shown(0, 0, 17) = 32",
                "shown(0, 0, 18)" + ARGUMENT);
        EDGES.edge("promise 8, setSize: just below the least width", "setSize(17, 8)" + ARGUMENT,
                "shown(0, 0, 29) = 32");
        EDGES.edge("promise 8, setSize: the greatest width", "setSize(60, 8) = 1", "shown(0, 0, 59) = 32",
                "shown(0, 0, 60)" + ARGUMENT);
        EDGES.edge("promise 8, setSize: just above the greatest width", "setSize(61, 8)" + ARGUMENT,
                "shown(0, 0, 30)" + ARGUMENT);
        EDGES.edge("promise 8, setSize: the least height", "setSize(30, 2) = 1", "shown(0, 1, 0) = 32",
                "shown(0, 2, 0)" + ARGUMENT);
        EDGES.edge("promise 8, setSize: just below the least height", "setSize(30, 1)" + ARGUMENT,
                "shown(0, 7, 0) = 32");
        EDGES.edge("promise 8, setSize: the greatest height", "setSize(30, 20) = 1", "shown(0, 19, 0) = 32",
                "shown(0, 20, 0)" + ARGUMENT);
        EDGES.edge("promise 8, setSize: just above the greatest height", "setSize(30, 21)" + ARGUMENT,
                "shown(0, 8, 0)" + ARGUMENT);
        EDGES.edge("promise 8, setSize: the least of both", "setSize(18, 2) = 1", "shown(0, 1, 17) = 32",
                "shown(0, 2, 17)" + ARGUMENT, "shown(0, 1, 18)" + ARGUMENT);
        EDGES.edge("promise 8, setSize: the greatest of both", "setSize(60, 20) = 1", "shown(0, 19, 59) = 32",
                "shown(0, 20, 59)" + ARGUMENT, "shown(0, 19, 60)" + ARGUMENT);
        EDGES.edge("promise 8, setSize: both out of range", "setSize(17, 1)" + ARGUMENT, "setSize(61, 21)" + ARGUMENT,
                "setSize(0, 0)" + ARGUMENT, "setSize(-30, -8)" + ARGUMENT);
        EDGES.edge("promise 8, setSize: sizes far out", "setSize(" + Edges.LEAST_INT + ", 8)" + ARGUMENT,
                "setSize(" + Edges.GREATEST_INT + ", 8)" + ARGUMENT, "setSize(30, " + Edges.LEAST_INT + ")" + ARGUMENT,
                "setSize(30, " + Edges.GREATEST_INT + ")" + ARGUMENT);
        EDGES.edge("promise 8, setSize: width and height are not exchanged", "setSize(20, 18) = 1",
                "setSize(18, 20) = 1", "setSize(2, 18)" + ARGUMENT, "setSize(20, 60)" + ARGUMENT);
    }

    private static void setSizeRest() {
        EDGES.richEdge("promise 8, setSize: refused in a full state", "setSize(17, 6)" + ARGUMENT,
                "setSize(20, 21)" + ARGUMENT, "count(4) = 2");
        EDGES.edge("promise 8, setSize: the same size once more", "still setSize(30, 8) = 1");
        EDGES.edge("promise 8, setSize: the most pages, one for each line", "type " + TEN_PARAGRAPHS, "load() = 10",
                "setStyle(2, 2) = 0", "setSize(18, 2) = 10", "setSize(18, 3) = 10", "setSize(18, 4) = 5");
        EDGES.edge("promise 8, setSize: the reader stays at the last character", "type " + FOUR_LINES, "load() = 1",
                "go(0, 50) = 0", "setSize(18, 2) = 2", "count(6) = 50", "count(5) = 1", "setSize(60, 20) = 1",
                "count(6) = 50", "count(5) = 0");
        EDGES.edge("promise 8, setSize: the reader stays at the first character", "type " + FOUR_LINES, "load() = 1",
                "setSize(18, 2) = 2", "count(6) = 0", "count(5) = 0");
        EDGES.edge("promise 8, setSize: it is no jump and no edit", "setSize(18, 2) = 1", "count(9) = 0",
                "count(10) = 0");
    }

    // ---- promise 9

    private static void styleRange(String part, int what, int first, int most) {
        String name = "promise 9, setStyle: " + part;
        String call = "setStyle(" + what + ", ";
        EDGES.edge(name + ", the least value", call + "0) = " + first, call + "0) = 0");
        EDGES.edge(name + ", just below the least value", call + "-1)" + ARGUMENT, call + first + ") = " + first);
        EDGES.edge(name + ", the greatest value", call + most + ") = " + first, call + most + ") = " + most);
        EDGES.edge(name + ", just above the greatest value", call + (most + 1) + ")" + ARGUMENT,
                call + first + ") = " + first);
        EDGES.edge(name + ", values far out", call + Edges.LEAST_INT + ")" + ARGUMENT,
                call + Edges.GREATEST_INT + ")" + ARGUMENT);
    }

    private static void setStyleRange() {
        styleRange("the indent", 0, 2, 4);
        styleRange("the quote indent", 1, 4, 4);
        styleRange("the gap", 2, 0, 2);
        styleRange("keeping", 3, 0, 1);
        styleRange("footnotes", 4, 0, 1);
        EDGES.edge("promise 9, setStyle: just below the least part", "setStyle(-1, 0)" + ARGUMENT,
                "setStyle(-1, 1)" + ARGUMENT);
        EDGES.edge("promise 9, setStyle: just above the greatest part", "setStyle(5, 0)" + ARGUMENT,
                "setStyle(5, 1)" + ARGUMENT);
        EDGES.edge("promise 9, setStyle: parts far out", "setStyle(" + Edges.LEAST_INT + ", 0)" + ARGUMENT,
                "setStyle(" + Edges.GREATEST_INT + ", 0)" + ARGUMENT);
        EDGES.edge("promise 9, setStyle: part and value out of range", "setStyle(-1, -1)" + ARGUMENT,
                "setStyle(5, 5)" + ARGUMENT);
    }

    private static void setStyleRest() {
        EDGES.edge("promise 9, setStyle: the indent alone is set", "setStyle(0, 1) = 2", "setStyle(1, 4) = 4",
                "setStyle(2, 0) = 0", "setStyle(3, 0) = 0", "setStyle(4, 0) = 0");
        EDGES.edge("promise 9, setStyle: footnotes alone are set", "setStyle(4, 1) = 0", "setStyle(0, 2) = 2",
                "setStyle(1, 4) = 4", "setStyle(2, 0) = 0", "setStyle(3, 0) = 0");
        EDGES.edge("promise 9, setStyle: the same value once more", "still setStyle(0, 2) = 2");
        EDGES.edge("promise 9, setStyle: the reader stays", "type aaaaaaaaaa bbbbb|c", "load() = 2",
                "setSize(18, 2) = 1", "go(0, 15) = 0", "setStyle(0, 4) = 2", "count(4) = 2", "count(6) = 15",
                "count(5) = 0", "setStyle(2, 2) = 0", "count(6) = 15");
        EDGES.edge("promise 9, setStyle: the reader's page is another one then", "type a|b", "load() = 2",
                "setSize(18, 2) = 1", "go(1, 0) = 0", "setStyle(2, 1) = 0", "count(5) = 1", "count(6) = 1000");
        EDGES.richEdge("promise 9, setStyle: refused in a full state", "setStyle(0, 5)" + ARGUMENT,
                "setStyle(2, 3)" + ARGUMENT, "setStyle(5, 0)" + ARGUMENT, "setStyle(3, 2)" + ARGUMENT);
    }

    // ---- promise 10

    private static void pageArguments() {
        EDGES.richEdge("promise 10, page: the first page", "still page(0, 0) = 0");
        EDGES.richEdge("promise 10, page: just below the first page", "page(-1, 0)" + INDEX);
        EDGES.richEdge("promise 10, page: the last page", "still page(1, 0) = 2000");
        EDGES.richEdge("promise 10, page: just above the last page", "page(2, 0)" + INDEX);
        EDGES.richEdge("promise 10, page: pages far out", "page(" + Edges.LEAST_INT + ", 0)" + INDEX,
                "page(" + Edges.GREATEST_INT + ", 1)" + INDEX);
        EDGES.richEdge("promise 10, page: just below the least property", "page(0, -1)" + ARGUMENT);
        EDGES.richEdge("promise 10, page: the greatest property", "still page(0, 6) = 1", "still page(1, 6) = 1");
        EDGES.richEdge("promise 10, page: just above the greatest property", "page(0, 7)" + ARGUMENT);
        EDGES.richEdge("promise 10, page: properties far out", "page(0, " + Edges.LEAST_INT + ")" + ARGUMENT,
                "page(0, " + Edges.GREATEST_INT + ")" + ARGUMENT);
        EDGES.richEdge("promise 10, page: page and property wrong", "page(-1, -1)" + INDEX, "page(2, 7)" + INDEX);
    }

    private static void pageFirstAndLast() {
        EDGES.edge("promise 10, page: the only page has no next one", "page(0, 0) = 0", "page(0, 1) = -1",
                "page(0, 2) = 1", "page(0, 3) = 1", "page(0, 4) = 0", "page(0, 5) = 0", "page(0, 6) = 0");
        EDGES.edge("promise 10, page: the last page has no next one", "type a|b|c", "load() = 3", "setSize(18, 2) = 2",
                "page(0, 1) = 2000", "page(1, 0) = 2000", "page(1, 1) = -1");
        EDGES.edge("promise 10, page: a page that begins within a paragraph", "type " + FOUR_LINES, "load() = 1",
                "setSize(18, 3) = 2", "page(0, 1) = 39", "page(1, 0) = 39", "page(1, 2) = 1");
        EDGES.edge("promise 10, page: the greatest position of a page", "type " + TEN_PARAGRAPHS + "bbbbbbbbbbb "
                + "c".repeat(12) + " " + "d".repeat(12), "load() = 10", "setSize(18, 2) = 6", "page(5, 0) = 9013",
                "page(4, 0) = 8000", "page(4, 1) = 9013");
    }

    private static void pageFull() {
        EDGES.edge("promise 10, page: as many rows as the page has", "type a|b", "load() = 2", "setSize(18, 2) = 1",
                "page(0, 2) = 2", "page(0, 3) = 2");
        EDGES.edge("promise 10, page: one row more than the page has", "type a|b|c", "load() = 3",
                "setSize(18, 2) = 2", "page(0, 2) = 2", "page(1, 2) = 1");
        EDGES.edge("promise 10, page: as many rows as the greatest page has", "type " + TEN_PARAGRAPHS.substring(0, 18)
                + "#j", "load() = 10", "setStyle(2, 1) = 0", "setSize(18, 20) = 1", "page(0, 3) = 20");
        EDGES.edge("promise 10, page: one row more than a page of nineteen has", "type "
                + TEN_PARAGRAPHS.substring(0, 18) + "#j", "load() = 10", "setStyle(2, 1) = 0", "setSize(18, 19) = 2",
                "page(0, 2) = 9", "page(0, 3) = 17");
        EDGES.edge("promise 10, page: each page begins where the one before it ends", "type a|b|c|d|e", "load() = 5",
                "setSize(18, 2) = 3", "line(0, 4) = 0", "line(1, 4) = 0", "line(2, 4) = 1", "line(3, 4) = 1",
                "line(4, 4) = 2");
    }

    private static void gaps() {
        EDGES.edge("promise 10, page: no gap before the first line of the book", "type #a", "load() = 1",
                "setStyle(2, 2) = 0", "page(0, 3) = 1", "line(0, 5) = 0");
        EDGES.edge("promise 10, page: no gap before the first line of a page", "type a|#b", "load() = 2",
                "setStyle(2, 2) = 0", "setSize(18, 4) = 2", "page(1, 3) = 1", "line(1, 5) = 0", "shown(1, 0, 0) = 98");
        EDGES.edge("promise 10, page: the least gap", "type a|b", "load() = 2", "page(0, 3) = 2", "line(1, 5) = 1");
        EDGES.edge("promise 10, page: the least gap before a heading", "type a|#b", "load() = 2", "page(0, 3) = 3",
                "line(1, 5) = 2");
        EDGES.edge("promise 10, page: the least gap before a quote", "type a|>b", "load() = 2", "page(0, 3) = 2");
        EDGES.edge("promise 10, page: the greatest gap", "type a|b", "load() = 2", "setStyle(2, 2) = 0",
                "page(0, 3) = 4", "line(1, 5) = 3", "setSize(18, 4) = 1", "setSize(18, 3) = 2");
        EDGES.edge("promise 10, page: the greatest gap before a heading", "type a|#b", "load() = 2",
                "setStyle(2, 2) = 0", "page(0, 3) = 5", "line(1, 5) = 4", "setSize(18, 5) = 1", "setSize(18, 4) = 2");
        EDGES.edge("promise 10, page: a heading has no gap behind it", "type #a|b", "load() = 2", "line(1, 5) = 1");
        EDGES.edge("promise 10, page: no gap before the second line of a heading", "type #" + TWO_LINES, "load() = 1",
                "setStyle(2, 2) = 0", "setSize(18, 2) = 1", "line(1, 5) = 1", "page(0, 3) = 2");
    }

    private static void notesOfPages() {
        String[] texts = {"type " + TEN_REFERENCES, "load() = 1", "setStyle(4, 1) = 0", "setSize(60, 20) = 1"};
        EDGES.edge("promise 10, page: no note", "setStyle(4, 1) = 0", "page(0, 4) = 0", "page(0, 5) = 0");
        EDGES.edge("promise 10, page: ten notes without a text", Edges.joined(texts, "page(0, 5) = 10",
                "page(0, 4) = 0", "page(0, 3) = 1"));
        String[] rows = Edges.joined(texts);
        for (int note = 0; note < 10; note++) {
            rows = Edges.joined(rows, "type n", "setNote(" + note + ") = 0", "page(0, 4) = " + (note + 2));
        }
        EDGES.edge("promise 10, page: ten notes with a text", Edges.joined(rows, "page(0, 5) = 10", "page(0, 3) = 1"));
        for (int note : new int[] {0, 9}) {
            EDGES.edge("promise 10, page: note " + note + " alone", "type a^" + note, "load() = 1", "type n",
                    "setNote(" + note + ") = 0", "setStyle(4, 1) = 0", "page(0, 4) = 2", "page(0, 5) = 1",
                    "setSize(18, 3) = 1", "shown(0, 1, 0) = 45", "shown(0, 2, 0) = " + (48 + note));
        }
        EDGES.edge("promise 10, page: a note counts once", "type a^1 b^1|c^1", "load() = 2", "type n",
                "setNote(1) = 0", "setStyle(4, 1) = 0", "page(0, 4) = 2", "page(0, 5) = 1", "page(0, 3) = 2");
        EDGES.edge("promise 10, page: footnotes are not shown", "type a^1", "load() = 1", "type n", "setNote(1) = 0",
                "page(0, 4) = 0", "page(0, 5) = 1", "setStyle(4, 1) = 0", "page(0, 4) = 2", "setStyle(4, 0) = 1",
                "page(0, 4) = 0");
        EDGES.edge("promise 10, page: a note of another page", "type a^1|b", "load() = 2", "type n", "setNote(1) = 0",
                "setStyle(4, 1) = 0", "setSize(18, 3) = 2", "page(0, 4) = 2", "page(1, 4) = 0", "page(1, 5) = 0");
        EDGES.edge("promise 10, page: a reference in the text of a note", "type a^1", "load() = 1", "type n^2",
                "setNote(1) = 0", "type m", "setNote(2) = 0", "setStyle(4, 1) = 0", "page(0, 4) = 2", "page(0, 5) = 1");
        EDGES.edge("promise 10, page: a note that just fits a line with its digit", "type a^1", "load() = 1",
                "type aaaaaaaaaa bbbbb", "setNote(1) = 0", "setStyle(4, 1) = 0", "setSize(18, 8) = 1",
                "page(0, 4) = 2");
        EDGES.edge("promise 10, page: a note that is one column too long with its digit", "type a^1", "load() = 1",
                "type aaaaaaaaaa bbbbbb", "setNote(1) = 0", "setStyle(4, 1) = 0", "setSize(18, 8) = 1",
                "page(0, 4) = 3");
        EDGES.edge("promise 10, page: a note is not indented", "type >a^1", "load() = 1", "type aaaaaaaaaa bbbbb",
                "setNote(1) = 0", "setStyle(4, 1) = 0", "setStyle(0, 4) = 2", "setSize(18, 8) = 1", "page(0, 4) = 2");
        EDGES.edge("promise 10, page: twelve words of a note", "type a^1", "load() = 1", "type " + TWELVE_LINES,
                "setNote(1) = 0", "setStyle(4, 1) = 0", "setSize(18, 8) = 1", "page(0, 4) = 7", "page(0, 3) = 1");
    }

    private static void tooManyRows() {
        String[] noted = {"type a^1|b", "load() = 2", "type " + TWO_LINE_NOTE, "setNote(1) = 0", "setStyle(4, 1) = 0"};
        EDGES.edge("promise 10, page: notes and lines just fit", Edges.joined(noted, "setSize(18, 5) = 1",
                "page(0, 3) = 2", "page(0, 4) = 3"));
        EDGES.edge("promise 10, page: one row too few for the next line", Edges.joined(noted, "setSize(18, 4) = 2",
                "page(0, 2) = 1", "page(0, 4) = 3"));
        EDGES.edge("promise 10, page: too many rows for a line alone", Edges.joined(noted, "setSize(18, 3) = 2",
                "page(0, 2) = 1", "page(0, 3) = 1", "page(0, 4) = 3", "page(1, 2) = 1"));
        EDGES.edge("promise 10, page: far too many rows for a line alone", Edges.joined(noted, "setSize(18, 2) = 2",
                "page(0, 2) = 1", "page(0, 4) = 3", "line(0, 5) = 0"));
        EDGES.edge("promise 10, page: the next line brings a note that does not fit", "type a|b^1", "load() = 2",
                "type n", "setNote(1) = 0", "setStyle(4, 1) = 0", "setSize(18, 3) = 2", "page(0, 2) = 1",
                "page(0, 4) = 0", "page(1, 4) = 2", "setSize(18, 4) = 1");
        EDGES.edge("promise 10, page: the next line brings no further note", "type a^1|b^1", "load() = 2", "type n",
                "setNote(1) = 0", "setStyle(4, 1) = 0", "setSize(18, 4) = 1", "page(0, 4) = 2");
        EDGES.edge("promise 10, page: two lines with too many rows", "type a^1|b^1", "load() = 2",
                "type " + TWO_LINE_NOTE, "setNote(1) = 0", "setStyle(4, 1) = 0", "setSize(18, 2) = 2",
                "page(0, 2) = 1", "page(1, 2) = 1", "page(1, 4) = 3");
        EDGES.edge("promise 10, page: too many rows for the last line of the book", "type a|b^1", "load() = 2",
                "type " + TWO_LINE_NOTE, "setNote(1) = 0", "setStyle(4, 1) = 0", "setSize(18, 2) = 2",
                "page(1, 2) = 1", "page(1, 4) = 3", "page(1, 1) = -1");
    }

    private static void keepingHeadings() {
        EDGES.edge("promise 10, page: keeping, a heading is not last on a page", "type a|#b|c", "load() = 3",
                "setStyle(3, 1) = 0", "setSize(18, 3) = 2", "page(0, 2) = 1", "page(1, 2) = 2");
        EDGES.edge("promise 10, page: keeping is off, a heading may be last on a page", "type a|#b|c", "load() = 3",
                "setSize(18, 3) = 2", "page(0, 2) = 2", "page(1, 2) = 1");
        EDGES.edge("promise 10, page: keeping, a heading is last in the book", "type a|#b", "load() = 2",
                "setStyle(3, 1) = 0", "setSize(18, 3) = 1", "page(0, 2) = 2");
        EDGES.edge("promise 10, page: keeping, a quote or a body may be last on a page", "type a|>b|c", "load() = 3",
                "setStyle(3, 1) = 0", "setSize(18, 2) = 2", "page(0, 2) = 2");
        EDGES.edge("promise 10, page: keeping, a heading may be first on a page", "type a|b|#c|d", "load() = 4",
                "setStyle(3, 1) = 0", "setSize(18, 2) = 2", "page(0, 2) = 2", "page(1, 0) = 2000");
        EDGES.edge("promise 10, page: keeping, a heading is not broken between its lines", "type a|#" + FOUR_LINES,
                "load() = 2", "setStyle(3, 1) = 0", "setSize(18, 5) = 2", "page(0, 2) = 1", "page(1, 2) = 4");
        EDGES.edge("promise 10, page: keeping, nothing but headings, the break stays", "type #a|#b|#c", "load() = 3",
                "setStyle(3, 1) = 0", "setSize(18, 3) = 2", "page(0, 2) = 2", "page(1, 2) = 1");
        EDGES.edge("promise 10, page: keeping, a heading with too many rows, the break stays", "type #a^1|b",
                "load() = 2", "type " + TWO_LINE_NOTE, "setNote(1) = 0", "setStyle(4, 1) = 0", "setStyle(3, 1) = 0",
                "setSize(18, 2) = 2", "page(0, 2) = 1");
    }

    private static void keepingLines() {
        EDGES.edge("promise 10, page: keeping, no break before a second line", "type a|" + FOUR_LINES, "load() = 2",
                "setStyle(3, 1) = 0", "setSize(18, 2) = 3", "page(0, 2) = 1", "page(1, 0) = 1000");
        EDGES.edge("promise 10, page: keeping, a break before the third of four lines", "type a|" + FOUR_LINES,
                "load() = 2", "setStyle(3, 1) = 0", "setSize(18, 3) = 2", "page(0, 2) = 3", "page(1, 0) = 1026");
        EDGES.edge("promise 10, page: keeping, no break before a last line", "type a|" + FOUR_LINES, "load() = 2",
                "setStyle(3, 1) = 0", "setSize(18, 4) = 2", "page(0, 2) = 3", "page(1, 0) = 1026");
        EDGES.edge("promise 10, page: keeping, no break in a paragraph of two lines", "type a|" + TWO_LINES,
                "load() = 2", "setStyle(3, 1) = 0", "setSize(18, 2) = 2", "page(0, 2) = 1", "page(1, 2) = 2");
        EDGES.edge("promise 10, page: keeping, no break in a paragraph of three lines", "type a|" + THREE_LINES,
                "load() = 2", "setStyle(3, 1) = 0", "setSize(18, 3) = 2", "page(0, 2) = 1", "page(1, 2) = 3");
        EDGES.edge("promise 10, page: keeping, a break before a paragraph of one line", "type a|b|c", "load() = 3",
                "setStyle(3, 1) = 0", "setSize(18, 2) = 2", "page(0, 2) = 2");
        EDGES.edge("promise 10, page: keeping, a break before the first of two lines", "type a|b|" + TWO_LINES,
                "load() = 3", "setStyle(3, 1) = 0", "setSize(18, 2) = 2", "page(0, 2) = 2", "page(1, 0) = 2000");
        EDGES.edge("promise 10, page: keeping, the last line of the book ends its page", "type " + THREE_LINES,
                "load() = 1", "setStyle(3, 1) = 0", "setSize(18, 3) = 1", "page(0, 2) = 3");
        EDGES.edge("promise 10, page: keeping, no allowed break, a paragraph of three lines", "type " + THREE_LINES,
                "load() = 1", "setStyle(3, 1) = 0", "setSize(18, 2) = 2", "page(0, 2) = 2", "page(1, 2) = 1");
        EDGES.edge("promise 10, page: keeping, a quote is kept as a body is", "type a|>" + FOUR_LINES, "load() = 2",
                "setStyle(3, 1) = 0", "setSize(18, 4) = 2", "page(0, 2) = 3", "page(1, 0) = 1026");
    }

    private static void keepingChoice() {
        EDGES.edge("promise 10, page: keeping, the greatest allowed break", "type a|b|#c|d", "load() = 4",
                "setStyle(3, 1) = 0", "setSize(18, 4) = 2", "page(0, 2) = 2", "page(1, 0) = 2000");
        EDGES.edge("promise 10, page: keeping, the least allowed break is behind the first line", "type a|#b|#c|d",
                "load() = 4", "setStyle(3, 1) = 0", "setSize(18, 5) = 2", "page(0, 2) = 1", "page(1, 0) = 1000");
        EDGES.edge("promise 10, page: keeping, the break before the first line of the page is none",
                "type b|" + THREE_LINES + "|c", "load() = 3", "setStyle(3, 1) = 0", "setSize(18, 2) = 3",
                "page(0, 2) = 1", "page(1, 0) = 1000", "page(1, 2) = 2", "page(2, 0) = 1026", "page(2, 2) = 2");
        EDGES.edge("promise 10, page: keeping, an allowed break stays", "type a|b|c|d", "load() = 4",
                "setStyle(3, 1) = 0", "setSize(18, 3) = 2", "page(0, 2) = 3");
    }

    private static void annotationsOfPages() {
        String[] twoPages = {"type " + FOUR_LINES, "load() = 1", "setSize(18, 2) = 2", "page(1, 0) = 26"};
        EDGES.edge("promise 10, page: an annotation of the first character of a page", Edges.joined(twoPages,
                "annotate(0, 26, 27, 0) = 0", "page(0, 6) = 0", "page(1, 6) = 1"));
        EDGES.edge("promise 10, page: an annotation of the last character of a page, a blank", Edges.joined(twoPages,
                "annotate(0, 25, 26, 0) = 0", "page(0, 6) = 1", "page(1, 6) = 0"));
        EDGES.edge("promise 10, page: an annotation of the last sign of a page", Edges.joined(twoPages,
                "annotate(0, 24, 25, 0) = 0", "page(0, 6) = 1", "page(1, 6) = 0"));
        EDGES.edge("promise 10, page: an annotation with a character on each of two pages", Edges.joined(twoPages,
                "annotate(0, 25, 27, 0) = 0", "page(0, 6) = 1", "page(1, 6) = 1"));
        EDGES.edge("promise 10, page: an annotation of the first and of the last character of the book",
                Edges.joined(twoPages, "annotate(0, 0, 1, 0) = 0", "annotate(0, 50, 51, 0) = 1", "page(0, 6) = 1",
                "page(1, 6) = 1"));
        EDGES.edge("promise 10, page: an annotation on a page between its ends", "type " + FOUR_LINES + "|x",
                "load() = 2", "setSize(18, 2) = 3", "annotate(0, 0, 51, 0) = 0", "annotate(1, 0, 1, 0) = 1",
                "page(0, 6) = 1", "page(1, 6) = 1", "page(2, 6) = 1");
        EDGES.edge("promise 10, page: an annotation up to the end of a paragraph that ends a page", "type a|b|c",
                "load() = 3", "setSize(18, 2) = 2", "annotate(1, 0, 1, 0) = 0", "page(0, 6) = 1", "page(1, 6) = 0");
        EDGES.edge("promise 10, page: a lost annotation has no character", "type ab cd", "load() = 1",
                "annotate(0, 3, 5, 0) = 0", "page(0, 6) = 1", "delete(0, 1, 1) = 1", "page(0, 6) = 0");
        EDGES.edge("promise 10, page: a lost annotation within the text of a page", "type ab cd ef", "load() = 1",
                "annotate(0, 3, 5, 0) = 0", "delete(0, 1, 1) = 2", "annotation(0, 1) = 3", "page(0, 6) = 0");
        String[] twelve = {"type abc", "load() = 1"};
        for (int made = 0; made < 12; made++) {
            twelve = Edges.joined(twelve, "annotate(0, 0, 3, 0) = " + made);
        }
        EDGES.edge("promise 10, page: twelve annotations on one page", Edges.joined(twelve, "page(0, 6) = 12"));
    }

    // ---- promise 11

    private static void lineArguments() {
        EDGES.richEdge("promise 11, line: the first line", "still line(0, 0) = 0", "still line(0, 3) = 3");
        EDGES.richEdge("promise 11, line: just below the first line", "line(-1, 0)" + INDEX);
        EDGES.richEdge("promise 11, line: the last line", "still line(3, 0) = 3", "still line(3, 3) = 5");
        EDGES.richEdge("promise 11, line: just above the last line", "line(4, 0)" + INDEX);
        EDGES.richEdge("promise 11, line: lines far out", "line(" + Edges.LEAST_INT + ", 0)" + INDEX,
                "line(" + Edges.GREATEST_INT + ", 2)" + INDEX);
        EDGES.richEdge("promise 11, line: just below the least property", "line(0, -1)" + ARGUMENT);
        EDGES.richEdge("promise 11, line: the greatest property", "still line(1, 5) = 2", "still line(2, 5) = 0");
        EDGES.richEdge("promise 11, line: just above the greatest property", "line(0, 6)" + ARGUMENT);
        EDGES.richEdge("promise 11, line: properties far out", "line(0, " + Edges.LEAST_INT + ")" + ARGUMENT,
                "line(0, " + Edges.GREATEST_INT + ")" + ARGUMENT);
        EDGES.richEdge("promise 11, line: line and property wrong", "line(-1, -1)" + INDEX, "line(4, 6)" + INDEX);
    }

    private static void lineFits() {
        String fifty = "bbbbbbbbbbbb cccccccccccc dddddddddddd eeeeeeeeeeee";
        EDGES.edge("promise 11, line: a word just fits the least width", "type aaaaaaaaaa bbbbb", "load() = 1",
                "setSize(18, 8) = 1", "count(3) = 1", "line(0, 2) = 2", "line(0, 3) = 18");
        EDGES.edge("promise 11, line: a word is one column too long for the least width", "type aaaaaaaaaa bbbbbb",
                "load() = 1", "setSize(18, 8) = 1", "count(3) = 2", "line(0, 3) = 12", "line(1, 3) = 6");
        EDGES.edge("promise 11, line: a word just fits the greatest width", "type " + fifty + " ffffff", "load() = 1",
                "setSize(60, 8) = 1", "count(3) = 1", "line(0, 3) = 60");
        EDGES.edge("promise 11, line: a word is one column too long for the greatest width",
                "type " + fifty + " fffffff", "load() = 1", "setSize(60, 8) = 1", "count(3) = 2", "line(0, 3) = 53",
                "line(1, 3) = 7");
        EDGES.edge("promise 11, line: a word just fits a later line", "type " + "a".repeat(12) + " bbbbbbbbb cccccccc",
                "load() = 1", "setSize(18, 8) = 1", "count(3) = 2", "line(1, 2) = 2", "line(1, 3) = 18");
        EDGES.edge("promise 11, line: a word is one column too long for a later line",
                "type " + "a".repeat(12) + " bbbbbbbbb ccccccccc", "load() = 1", "setSize(18, 8) = 1", "count(3) = 3",
                "line(1, 2) = 1");
        EDGES.edge("promise 11, line: the longest word with the greatest indent takes the least width",
                "type >abcdefghijkl^1", "load() = 1", "setSize(18, 8) = 1", "count(3) = 1", "line(0, 2) = 1",
                "line(0, 3) = 18");
        EDGES.edge("promise 11, line: the columns of a reference count", "type aaaaaaaaaa bbbb^1", "load() = 1",
                "setSize(18, 8) = 1", "count(3) = 2", "setSize(19, 8) = 1", "count(3) = 1", "line(0, 3) = 19");
        EDGES.edge("promise 11, line: twenty-four words", "type " + Edges.TWELVE_WORDS + " " + Edges.TWELVE_WORDS,
                "load() = 1", "setSize(18, 8) = 1", "count(3) = 3", "line(0, 1) = 0", "line(0, 2) = 8",
                "line(0, 3) = 17", "line(1, 1) = 8", "line(1, 2) = 9", "line(1, 3) = 17", "line(2, 1) = 17",
                "line(2, 2) = 7", "line(2, 3) = 13");
        EDGES.edge("promise 11, line: a paragraph with a line for each of twenty-two words", "type >" + TWELVE_LINES,
                "load() = 1", "type " + TWELVE_LINES.substring(0, 79), "insert(0, 12) = 22", "setSize(18, 20) = 2",
                "count(3) = 22", "line(19, 5) = 19", "line(20, 4) = 1", "line(20, 5) = 0", "line(21, 1) = 21",
                "line(21, 5) = 1");
    }

    private static void lineIndents() {
        EDGES.edge("promise 11, line: the first line of a body paragraph alone is indented", "type " + TWO_LINES,
                "load() = 1", "setSize(18, 8) = 1", "line(0, 3) = 14", "line(1, 3) = 12");
        EDGES.edge("promise 11, line: the least indent", "type " + TWO_LINES, "load() = 1", "setStyle(0, 0) = 2",
                "setSize(18, 8) = 1", "line(0, 3) = 12", "line(1, 3) = 12", "shown(0, 0, 0) = 98");
        EDGES.edge("promise 11, line: the greatest indent", "type " + TWO_LINES, "load() = 1", "setStyle(0, 4) = 2",
                "setSize(18, 8) = 1", "line(0, 3) = 16", "line(1, 3) = 12", "shown(0, 0, 3) = 32",
                "shown(0, 0, 4) = 98");
        EDGES.edge("promise 11, line: each line of a quote is indented", "type >" + TWO_LINES, "load() = 1",
                "setSize(18, 8) = 1", "line(0, 3) = 16", "line(1, 3) = 16");
        EDGES.edge("promise 11, line: the least quote indent", "type >" + TWO_LINES, "load() = 1",
                "setStyle(1, 0) = 4", "setSize(18, 8) = 1", "line(0, 3) = 12", "line(1, 3) = 12");
        EDGES.edge("promise 11, line: no line of a heading is indented", "type #" + TWO_LINES, "load() = 1",
                "setStyle(0, 4) = 2", "setSize(18, 8) = 1", "line(0, 3) = 12", "line(1, 3) = 12");
        EDGES.edge("promise 11, line: the indent of a second body paragraph", "type a|b", "load() = 2",
                "line(0, 3) = 3", "line(1, 3) = 3");
        EDGES.edge("promise 11, line: a body paragraph that just fits by its indent", "type aaaaaaaaaa bbbbbbb",
                "load() = 1", "setStyle(0, 0) = 2", "setSize(18, 8) = 1", "count(3) = 1", "setStyle(0, 1) = 0",
                "count(3) = 2");
        EDGES.edge("promise 11, line: a quote that just fits by its indent", "type >aaaaaaaaaa bbb", "load() = 1",
                "setSize(18, 8) = 1", "count(3) = 1", "line(0, 3) = 18");
        EDGES.edge("promise 11, line: a quote that is one column too long by its indent", "type >aaaaaaaaaa bbbb",
                "load() = 1", "setSize(18, 8) = 1", "count(3) = 2", "setStyle(1, 3) = 4", "count(3) = 1");
        EDGES.edge("promise 11, line: a heading that just fits", "type #aaaaaaaaaa bbbbbbb", "load() = 1",
                "setSize(18, 8) = 1", "count(3) = 1", "line(0, 3) = 18");
        EDGES.edge("promise 11, line: a heading that is one column too long", "type #aaaaaaaaaa bbbbbbbb",
                "load() = 1", "setSize(18, 8) = 1", "count(3) = 2");
    }

    private static void lineProperties() {
        String[] lines = {"type a|" + FOUR_LINES + "|b", "load() = 3", "setSize(18, 3) = 2"};
        EDGES.edge("promise 11, line: the paragraph at its ends", Edges.joined(lines, "line(0, 0) = 0",
                "line(1, 0) = 1", "line(4, 0) = 1", "line(5, 0) = 2"));
        EDGES.edge("promise 11, line: the first word is counted in the paragraph", Edges.joined(lines,
                "line(0, 1) = 0", "line(1, 1) = 0", "line(4, 1) = 3", "line(5, 1) = 0"));
        EDGES.edge("promise 11, line: the page of the last and the first line of a page", Edges.joined(lines,
                "line(2, 4) = 0", "line(3, 4) = 1", "line(5, 4) = 1"));
        EDGES.edge("promise 11, line: the row of the last and the first line of a page", Edges.joined(lines,
                "line(2, 5) = 2", "line(3, 5) = 0", "line(5, 5) = 2"));
        EDGES.edge("promise 11, line: the row with gaps before it", "type a|#b|c", "load() = 3", "setStyle(2, 2) = 0",
                "setSize(18, 8) = 1", "line(0, 5) = 0", "line(1, 5) = 4", "line(2, 5) = 7");
    }

    // ---- promise 12

    private static void shownArguments() {
        EDGES.richEdge("promise 12, shown: the first page", "still shown(0, 0, 0) = 84");
        EDGES.richEdge("promise 12, shown: just below the first page", "shown(-1, 0, 0)" + INDEX);
        EDGES.richEdge("promise 12, shown: the last page", "still shown(1, 0, 1) = 101");
        EDGES.richEdge("promise 12, shown: just above the last page", "shown(2, 0, 0)" + INDEX);
        EDGES.richEdge("promise 12, shown: pages far out", "shown(" + Edges.LEAST_INT + ", 0, 0)" + INDEX,
                "shown(" + Edges.GREATEST_INT + ", 0, 0)" + INDEX);
        EDGES.richEdge("promise 12, shown: just below the least row", "shown(0, -1, 0)" + ARGUMENT);
        EDGES.richEdge("promise 12, shown: the greatest row", "still shown(0, 5, 0) = 49");
        EDGES.richEdge("promise 12, shown: just above the greatest row", "shown(0, 6, 0)" + ARGUMENT);
        EDGES.richEdge("promise 12, shown: just below the least column", "shown(0, 0, -1)" + ARGUMENT);
        EDGES.richEdge("promise 12, shown: the greatest column", "still shown(0, 4, 19) = 45");
        EDGES.richEdge("promise 12, shown: just above the greatest column", "shown(0, 0, 20)" + ARGUMENT);
        EDGES.richEdge("promise 12, shown: rows and columns far out", "shown(0, " + Edges.LEAST_INT + ", 0)" + ARGUMENT,
                "shown(0, " + Edges.GREATEST_INT + ", 0)" + ARGUMENT, "shown(0, 0, " + Edges.LEAST_INT + ")" + ARGUMENT,
                "shown(0, 0, " + Edges.GREATEST_INT + ")" + ARGUMENT);
        EDGES.richEdge("promise 12, shown: all wrong", "shown(-1, -1, -1)" + INDEX, "shown(2, 6, 20)" + INDEX);
        EDGES.richEdge("promise 12, shown: row and column wrong", "shown(0, 6, 20)" + ARGUMENT,
                "shown(1, -1, -1)" + ARGUMENT);
    }

    private static void shownText() {
        EDGES.edge("promise 12, shown: the indent is empty", "shown(0, 0, 0) = 32", "shown(0, 0, 1) = 32",
                "shown(0, 0, 2) = 97");
        EDGES.edge("promise 12, shown: nothing behind the last word of a line", "type " + TWO_LINES, "load() = 1",
                "setSize(18, 8) = 1", "shown(0, 0, 13) = 98", "shown(0, 0, 14) = 32", "shown(0, 0, 15) = 32",
                "shown(0, 1, 0) = 99", "shown(0, 1, 11) = 99", "shown(0, 1, 12) = 32");
        EDGES.edge("promise 12, shown: a line that takes all columns", "type >abcdefghijkl^1", "load() = 1",
                "setSize(18, 2) = 1", "shown(0, 0, 3) = 32", "shown(0, 0, 4) = 97", "shown(0, 0, 16) = 94",
                "shown(0, 0, 17) = 49", "shown(0, 1, 17) = 32");
        EDGES.edge("promise 12, shown: the empty rows of a gap", "type ab|#cd", "load() = 2", "setStyle(2, 2) = 0",
                "setSize(18, 5) = 1", "shown(0, 0, 2) = 97", "shown(0, 1, 0) = 32", "shown(0, 1, 2) = 32",
                "shown(0, 2, 0) = 32", "shown(0, 3, 0) = 32", "shown(0, 4, 0) = 99");
        EDGES.edge("promise 12, shown: the rows behind the last line are empty", "type a|b|c", "load() = 3",
                "setSize(18, 2) = 2", "shown(0, 1, 2) = 98", "shown(1, 0, 2) = 99", "shown(1, 1, 2) = 32");
        EDGES.edge("promise 12, shown: the blank between two words", "type a b", "load() = 1", "shown(0, 0, 3) = 32",
                "shown(0, 0, 4) = 98", "shown(0, 0, 5) = 32");
    }

    private static void shownNotes() {
        String[] noted = {"type a^1|b", "load() = 2", "type " + TWO_LINE_NOTE, "setNote(1) = 0", "setStyle(4, 1) = 0"};
        EDGES.edge("promise 12, shown: the rule takes all columns", Edges.joined(noted, "setSize(60, 20) = 1",
                "shown(0, 18, 0) = 45", "shown(0, 18, 59) = 45", "shown(0, 17, 0) = 32", "shown(0, 19, 59) = 32"));
        EDGES.edge("promise 12, shown: the last line of the notes is in the last row", Edges.joined(noted,
                "setSize(18, 8) = 1", "shown(0, 4, 0) = 32", "shown(0, 5, 0) = 45", "shown(0, 6, 0) = 49",
                "shown(0, 6, 1) = 32", "shown(0, 6, 2) = 99", "shown(0, 6, 14) = 32", "shown(0, 6, 15) = 32",
                "shown(0, 7, 0) = 100", "shown(0, 7, 11) = 100", "shown(0, 7, 12) = 32"));
        EDGES.edge("promise 12, shown: the notes follow the lines at once", Edges.joined(noted, "setSize(18, 5) = 1",
                "shown(0, 1, 2) = 98", "shown(0, 2, 0) = 45", "shown(0, 3, 0) = 49", "shown(0, 4, 0) = 100"));
        EDGES.edge("promise 12, shown: the last line of a note is beyond the height", Edges.joined(noted,
                "setSize(18, 3) = 2", "shown(0, 0, 2) = 97", "shown(0, 1, 0) = 45", "shown(0, 2, 0) = 49",
                "shown(0, 3, 0)" + ARGUMENT));
        EDGES.edge("promise 12, shown: all lines of a note are beyond the height", Edges.joined(noted,
                "setSize(18, 2) = 2", "shown(0, 0, 2) = 97", "shown(0, 1, 0) = 45", "shown(0, 1, 17) = 45",
                "shown(1, 0, 2) = 98", "shown(1, 1, 0) = 32"));
        EDGES.edge("promise 12, shown: the notes by their numbers", "type b^9 a^0", "load() = 1", "type nine",
                "setNote(9) = 0", "type zero", "setNote(0) = 0", "setStyle(4, 1) = 0", "shown(0, 5, 0) = 45",
                "shown(0, 6, 0) = 48", "shown(0, 6, 2) = 122", "shown(0, 7, 0) = 57", "shown(0, 7, 2) = 110");
        EDGES.edge("promise 12, shown: a note without a text between two others", "type a^1 b^2 c^3", "load() = 1",
                "type one", "setNote(1) = 0", "type three", "setNote(3) = 0", "setStyle(4, 1) = 0",
                "shown(0, 5, 0) = 45", "shown(0, 6, 0) = 49", "shown(0, 7, 0) = 51");
        EDGES.edge("promise 12, shown: a note that takes all columns", "type a^1", "load() = 1",
                "type aaaaaaaaaa bbbbb", "setNote(1) = 0", "setStyle(4, 1) = 0", "setSize(18, 3) = 1",
                "shown(0, 2, 0) = 49", "shown(0, 2, 17) = 98");
        EDGES.edge("promise 12, shown: no rule without a note", "type a^1", "load() = 1", "setStyle(4, 1) = 0",
                "shown(0, 6, 0) = 32", "shown(0, 7, 0) = 32");
        EDGES.edge("promise 12, shown: a reference in a note is shown", "type a^1", "load() = 1", "type n^2",
                "setNote(1) = 0", "setStyle(4, 1) = 0", "shown(0, 7, 2) = 110", "shown(0, 7, 3) = 94",
                "shown(0, 7, 4) = 50", "shown(0, 7, 5) = 32");
    }

    // ---- promise 13

    private static void noteOn() {
        String[] ten = {"type " + TEN_REFERENCES, "load() = 1", "setSize(60, 2) = 1"};
        String[] rows = ten;
        for (int index = 0; index < 10; index++) {
            rows = Edges.joined(rows, "noteOn(0, " + index + ") = " + index);
        }
        EDGES.edge("promise 13, noteOn: ten notes in ascending order", rows);
        EDGES.edge("promise 13, noteOn: just below the least index", Edges.joined(ten, "noteOn(0, -1)" + INDEX));
        EDGES.edge("promise 13, noteOn: just above the greatest index", Edges.joined(ten, "still noteOn(0, 9) = 9",
                "noteOn(0, 10)" + INDEX));
        EDGES.edge("promise 13, noteOn: indices far out", Edges.joined(ten,
                "noteOn(0, " + Edges.LEAST_INT + ")" + INDEX, "noteOn(0, " + Edges.GREATEST_INT + ")" + INDEX));
        EDGES.edge("promise 13, noteOn: just below the first page", Edges.joined(ten, "noteOn(-1, 0)" + INDEX));
        EDGES.edge("promise 13, noteOn: just above the last page", Edges.joined(ten, "noteOn(1, 0)" + INDEX));
        EDGES.edge("promise 13, noteOn: pages far out", Edges.joined(ten, "noteOn(" + Edges.LEAST_INT + ", 0)" + INDEX,
                "noteOn(" + Edges.GREATEST_INT + ", 0)" + INDEX));
        EDGES.edge("promise 13, noteOn: a page without a note", "noteOn(0, 0)" + INDEX);
        EDGES.edge("promise 13, noteOn: a page with one note", "type a^5 b^5", "load() = 1", "noteOn(0, 0) = 5",
                "noteOn(0, 1)" + INDEX);
        EDGES.edge("promise 13, noteOn: a note without a text, and footnotes on", "type a^5", "load() = 1",
                "setStyle(4, 1) = 0", "noteOn(0, 0) = 5", "noteOn(0, 1)" + INDEX);
        EDGES.edge("promise 13, noteOn: a reference in the text of a note", "type a^5", "load() = 1", "type n^2",
                "setNote(5) = 0", "setStyle(4, 1) = 0", "noteOn(0, 0) = 5", "noteOn(0, 1)" + INDEX);
        EDGES.edge("promise 13, noteOn: the notes of another page", "type a^1|b^0|c", "load() = 3",
                "setStyle(2, 2) = 0", "setSize(18, 2) = 3", "noteOn(0, 0) = 1", "noteOn(0, 1)" + INDEX,
                "noteOn(1, 0) = 0", "noteOn(2, 0)" + INDEX);
        EDGES.edge("promise 13, noteOn: the last word of a page and the first of the next one",
                "type aaaaaaaaaaaa bbbbbbbbb^1 cccccccccc^2", "load() = 1", "setSize(18, 2) = 2", "noteOn(0, 0) = 1",
                "noteOn(0, 1)" + INDEX, "noteOn(1, 0) = 2", "noteOn(1, 1)" + INDEX);
        EDGES.richEdge("promise 13, noteOn: refused in a full state", "still noteOn(0, 0) = 1", "noteOn(0, 1)" + INDEX,
                "noteOn(1, 0)" + INDEX, "noteOn(2, 0)" + INDEX);
    }

    // ---- promise 14

    private static void pageOf() {
        String[] pages = {"type " + FOUR_LINES + "|a", "load() = 2", "setSize(18, 2) = 3"};
        EDGES.edge("promise 14, pageOf: the first character", Edges.joined(pages, "still pageOf(0, 0) = 0"));
        EDGES.edge("promise 14, pageOf: just below the least offset", Edges.joined(pages, "pageOf(0, -1)" + INDEX,
                "pageOf(1, -1)" + INDEX));
        EDGES.edge("promise 14, pageOf: the last character of a paragraph", Edges.joined(pages,
                "still pageOf(0, 50) = 1", "pageOf(1, 0) = 2"));
        EDGES.edge("promise 14, pageOf: just above the greatest offset", Edges.joined(pages, "pageOf(0, 51)" + INDEX,
                "pageOf(1, 1)" + INDEX));
        EDGES.edge("promise 14, pageOf: a blank at the end of a page", Edges.joined(pages, "pageOf(0, 24) = 0",
                "pageOf(0, 25) = 0", "pageOf(0, 26) = 1"));
        EDGES.edge("promise 14, pageOf: just below the least paragraph", Edges.joined(pages, "pageOf(-1, 0)" + INDEX));
        EDGES.edge("promise 14, pageOf: just above the greatest paragraph", Edges.joined(pages,
                "pageOf(2, 0)" + INDEX));
        EDGES.edge("promise 14, pageOf: far out", Edges.joined(pages, "pageOf(" + Edges.LEAST_INT + ", 0)" + INDEX,
                "pageOf(" + Edges.GREATEST_INT + ", 0)" + INDEX, "pageOf(0, " + Edges.LEAST_INT + ")" + INDEX,
                "pageOf(0, " + Edges.GREATEST_INT + ")" + INDEX));
        EDGES.edge("promise 14, pageOf: a paragraph that ends a page", "type a|b|c", "load() = 3",
                "setSize(18, 2) = 2", "pageOf(1, 0) = 0", "pageOf(2, 0) = 1");
        EDGES.edge("promise 14, pageOf: pages of one line", "type ab|cd|ef", "load() = 3", "setStyle(2, 2) = 0",
                "setSize(18, 2) = 3", "pageOf(0, 0) = 0", "pageOf(0, 1) = 0", "pageOf(1, 0) = 1", "pageOf(1, 1) = 1",
                "pageOf(2, 0) = 2", "pageOf(2, 1) = 2");
        EDGES.edge("promise 14, pageOf: the offset of another paragraph", "type ab|c|def", "load() = 3",
                "pageOf(1, 1)" + INDEX, "pageOf(0, 2)" + INDEX, "pageOf(2, 2) = 0");
        EDGES.richEdge("promise 14, pageOf: refused in a full state", "pageOf(4, 0)" + INDEX, "pageOf(3, 2)" + INDEX,
                "still pageOf(3, 1) = 1");
    }

    // ---- promise 15

    private static void floatingArguments() {
        EDGES.richEdge("promise 15, floating: the first line", "still floating(0, true) = 2",
                "still floating(0, false) = -1");
        EDGES.richEdge("promise 15, floating: just below the first line", "floating(-1, true)" + INDEX,
                "floating(-1, false)" + INDEX);
        EDGES.richEdge("promise 15, floating: the last line", "still floating(3, true) = 4",
                "still floating(3, false) = 1");
        EDGES.richEdge("promise 15, floating: just above the last line", "floating(4, true)" + INDEX,
                "floating(4, false)" + INDEX);
        EDGES.richEdge("promise 15, floating: lines far out", "floating(" + Edges.LEAST_INT + ", true)" + INDEX,
                "floating(" + Edges.GREATEST_INT + ", true)" + INDEX,
                "floating(" + Edges.LEAST_INT + ", false)" + INDEX,
                "floating(" + Edges.GREATEST_INT + ", false)" + INDEX);
    }

    private static void floatingForwards() {
        EDGES.edge("promise 15, floating: forwards in a book of one line", "floating(0, true) = 1");
        EDGES.edge("promise 15, floating: forwards to the end of the book", "type a|b|c|d|e", "load() = 5",
                "setSize(18, 2) = 3", "floating(3, true) = 5", "floating(4, true) = 5");
        EDGES.edge("promise 15, floating: forwards, as many rows as the page has", "type a|b|c|d|e", "load() = 5",
                "setSize(18, 2) = 3", "floating(1, true) = 3", "floating(2, true) = 4");
        EDGES.edge("promise 15, floating: forwards, no gap before the first line", "type a|#b|c", "load() = 3",
                "setSize(18, 2) = 2", "floating(0, true) = 1", "floating(1, true) = 3");
        EDGES.edge("promise 15, floating: forwards, too many rows for the line alone", "type a|b^1|c", "load() = 3",
                "type " + TWO_LINE_NOTE, "setNote(1) = 0", "setStyle(4, 1) = 0", "setSize(18, 2) = 3",
                "floating(1, true) = 2");
        EDGES.edge("promise 15, floating: forwards with keeping", "type a|" + FOUR_LINES, "load() = 2",
                "setStyle(3, 1) = 0", "setSize(18, 3) = 2", "floating(0, true) = 3", "floating(1, true) = 3",
                "floating(2, true) = 5", "floating(4, true) = 5");
        EDGES.edge("promise 15, floating: forwards with keeping, no allowed break", "type a|" + FOUR_LINES,
                "load() = 2", "setStyle(3, 1) = 0", "setSize(18, 2) = 3", "floating(2, true) = 3",
                "floating(0, true) = 1");
    }

    private static void floatingBackwards() {
        EDGES.edge("promise 15, floating: backwards in a book of one line", "floating(0, false) = -1");
        EDGES.edge("promise 15, floating: backwards to the first line", "type a|b|c|d|e", "load() = 5",
                "setSize(18, 2) = 3", "floating(2, false) = 0");
        EDGES.edge("promise 15, floating: backwards, too few lines before it", "type a|b|c|d|e", "load() = 5",
                "setSize(18, 2) = 3", "floating(1, false) = -1");
        EDGES.edge("promise 15, floating: backwards to a line that begins no page", "type a|b|c|d|e", "load() = 5",
                "setSize(18, 2) = 3", "floating(3, false) = 1", "floating(4, false) = 2");
        EDGES.edge("promise 15, floating: backwards, the least of two lines", "type a|b|#c|d", "load() = 4",
                "setStyle(3, 1) = 0", "setSize(18, 3) = 2", "floating(0, true) = 2", "floating(1, true) = 2",
                "floating(2, false) = 0");
        EDGES.edge("promise 15, floating: backwards, a break that is not allowed", "type a|b|#c|d", "load() = 4",
                "setStyle(3, 1) = 0", "setSize(18, 3) = 2", "floating(3, false) = -1");
        EDGES.edge("promise 15, floating: backwards, too many rows for the line before", "type a|b^1|c", "load() = 3",
                "type " + TWO_LINE_NOTE, "setNote(1) = 0", "setStyle(4, 1) = 0", "setSize(18, 2) = 3",
                "floating(2, false) = 1", "floating(1, false) = 0");
        EDGES.edge("promise 15, floating: the page with the most lines", "type >" + TWELVE_LINES, "load() = 1",
                "type " + TWELVE_LINES.substring(0, 79), "insert(0, 12) = 22", "setSize(18, 20) = 2",
                "floating(0, true) = 20", "floating(1, true) = 21", "floating(2, true) = 22",
                "floating(19, false) = -1", "floating(20, false) = 0", "floating(21, false) = 1");
    }
}
