/** Promises 8 to 15: sizes, styles, pages and lines. */
public final class PagesTest {
    private static final Script SCRIPT = new Script();
    private static final String LONG = "bbbbbbbbbbbb";
    /** Four words, each of which takes a line of its own where the page has 18 columns. */
    private static final String FOUR_LINES = "bbbbbbbbbbbb cccccccccccc dddddddddddd eeeeeeeeeeee";

    public static void main(String[] args) {
        setSize();
        setStyle();
        indents();
        gaps();
        keepingOfHeadings();
        keepingOfLines();
        page();
        pagesOfAnnotations();
        line();
        shown();
        shownNotes();
        notesThatDoNotFit();
        noteOn();
        pageOf();
        floating();
        SCRIPT.end();
    }

    private static void setSize() {
        SCRIPT.run("promise 8",
                "type aaaaaaaaaa bbbbbbbbbb cccccccccc", "load() = 1",
                "setSize(18, 2) = 2", "count(3) = 3", "setSize(20, 2) = 2", "setSize(22, 2) = 1", "count(3) = 2",
                "line(0, 2) = 1", "setSize(23, 2) = 1", "line(0, 2) = 2", "setSize(18, 3) = 1",
                "setSize(60, 20) = 1", "count(3) = 1",
                "setSize(17, 8) = throws IllegalArgumentException", "setSize(61, 8) = throws IllegalArgumentException",
                "setSize(30, 1) = throws IllegalArgumentException", "setSize(30, 21) = throws IllegalArgumentException",
                "setSize(-2147483648, 2147483647) = throws IllegalArgumentException", "shown(0, 19, 59) = 32");
        SCRIPT.run("promise 8, the reader stays",
                "type aaaaaaaaaa bbbbbbbbbb cccccccccc", "load() = 1", "go(0, 22) = 0", "setSize(18, 2) = 2",
                "count(5) = 1", "count(6) = 22", "setSize(30, 8) = 1", "count(5) = 0", "count(6) = 22");
    }

    private static void setStyle() {
        SCRIPT.run("promise 9",
                "setStyle(0, 4) = 2", "setStyle(0, 0) = 4", "setStyle(1, 0) = 4", "setStyle(1, 4) = 0",
                "setStyle(2, 2) = 0", "setStyle(2, 1) = 2", "setStyle(3, 1) = 0", "setStyle(3, 0) = 1",
                "setStyle(4, 1) = 0", "setStyle(4, 0) = 1",
                "setStyle(0, 5) = throws IllegalArgumentException", "setStyle(0, -1) = throws IllegalArgumentException",
                "setStyle(1, 5) = throws IllegalArgumentException", "setStyle(2, 3) = throws IllegalArgumentException",
                "setStyle(3, 2) = throws IllegalArgumentException", "setStyle(4, 2) = throws IllegalArgumentException",
                "setStyle(4, -1) = throws IllegalArgumentException", "setStyle(5, 0) = throws IllegalArgumentException",
                "setStyle(-1, 0) = throws IllegalArgumentException",
                "setStyle(2147483647, 0) = throws IllegalArgumentException", "setStyle(0, 0) = 0");
        SCRIPT.run("promise 9, the reader stays", "type a b", "load() = 1", "go(0, 2) = 0", "setStyle(0, 4) = 2",
                "count(6) = 2", "line(0, 3) = 7");
    }

    private static void indents() {
        SCRIPT.run("lines, a body paragraph", "type " + FOUR_LINES, "load() = 1", "setSize(18, 8) = 1",
                "line(0, 3) = 14", "line(1, 3) = 12", "setStyle(0, 4) = 2", "line(0, 3) = 16", "line(1, 3) = 12",
                "setStyle(1, 1) = 4", "line(0, 3) = 16");
        SCRIPT.run("lines, a quote", "type >" + FOUR_LINES, "load() = 1", "setSize(18, 8) = 1",
                "line(0, 3) = 16", "line(3, 3) = 16", "setStyle(1, 1) = 4", "line(0, 3) = 13", "line(3, 3) = 13",
                "setStyle(0, 4) = 2", "line(0, 3) = 13");
        SCRIPT.run("lines, a heading", "type #" + FOUR_LINES, "load() = 1", "setSize(18, 8) = 1",
                "line(0, 3) = 12", "line(1, 3) = 12", "setStyle(0, 4) = 2", "line(0, 3) = 12");
        SCRIPT.run("lines, the indent decides", "type aaaaaaaaaa bbbbb", "load() = 1", "setSize(18, 8) = 1",
                "count(3) = 1", "line(0, 3) = 18", "setStyle(0, 3) = 2", "count(3) = 2", "line(0, 3) = 13",
                "line(1, 3) = 5");
        SCRIPT.run("lines, a reference takes columns", "type aaaaaaaaaa bbb^1", "load() = 1", "setSize(18, 8) = 1",
                "count(3) = 1", "setStyle(0, 3) = 2", "count(3) = 2", "setSize(19, 8) = 1", "count(3) = 1");
    }

    private static void gaps() {
        SCRIPT.run("gaps", "type a|b|#c", "load() = 3", "line(1, 5) = 1", "line(2, 5) = 3", "page(0, 3) = 4",
                "setStyle(2, 2) = 0", "line(0, 5) = 0", "line(1, 5) = 3", "line(2, 5) = 7", "page(0, 3) = 8",
                "count(4) = 1", "setSize(30, 7) = 2", "line(2, 4) = 1", "line(2, 5) = 0", "page(0, 3) = 4",
                "page(1, 3) = 1", "setSize(30, 3) = 3", "setSize(30, 4) = 2", "page(0, 2) = 2", "page(1, 2) = 1");
        SCRIPT.run("gaps, not between the lines of a paragraph", "type #" + FOUR_LINES, "load() = 1",
                "setStyle(2, 2) = 0", "setSize(18, 4) = 1", "line(3, 5) = 3");
    }

    private static void keepingOfHeadings() {
        SCRIPT.run("keeping, a heading at the end", "type a|#b|c", "load() = 3", "setSize(18, 3) = 2",
                "page(0, 2) = 2", "setStyle(3, 1) = 0", "count(4) = 2", "page(0, 2) = 1", "page(1, 0) = 1000",
                "page(1, 2) = 2", "floating(0, true) = 1", "setStyle(3, 0) = 1", "page(0, 2) = 2");
        SCRIPT.run("keeping, a heading in the middle of its lines", "type a|#" + LONG + " " + FOUR_LINES,
                "load() = 2", "setSize(18, 4) = 2", "page(0, 2) = 3", "setStyle(3, 1) = 0", "page(0, 2) = 1",
                "page(1, 2) = 4", "count(4) = 3");
        SCRIPT.run("keeping, nothing but headings", "type #a|#b|#c", "load() = 3", "setSize(18, 3) = 2",
                "setStyle(3, 1) = 0", "page(0, 2) = 2", "count(4) = 2");
        SCRIPT.run("keeping, the end of the book", "type a|#b", "load() = 2", "setStyle(3, 1) = 0",
                "setSize(18, 3) = 1");
    }

    private static void keepingOfLines() {
        SCRIPT.run("keeping, a second line", "type a|" + FOUR_LINES, "load() = 2", "setSize(18, 2) = 3",
                "page(1, 0) = 1013", "setStyle(3, 1) = 0", "count(4) = 3", "page(1, 0) = 1000",
                "page(2, 0) = 1026", "floating(2, true) = 3", "floating(4, true) = 5");
        SCRIPT.run("keeping, a last line", "type " + FOUR_LINES, "load() = 1", "setSize(18, 3) = 2",
                "page(0, 2) = 3", "setStyle(3, 1) = 0", "page(0, 2) = 2", "count(4) = 2", "page(1, 0) = 26");
        SCRIPT.run("keeping, no allowed break", "type " + LONG + " " + LONG + " " + LONG, "load() = 1",
                "setStyle(3, 1) = 0", "setSize(18, 2) = 2", "page(0, 2) = 2", "floating(0, true) = 2");
        SCRIPT.run("keeping, a paragraph with one line", "type a|b|c", "load() = 3", "setStyle(3, 1) = 0",
                "setSize(18, 2) = 2", "page(0, 2) = 2");
    }

    private static void page() {
        SCRIPT.run("promise 10",
                "type a^1|" + FOUR_LINES + "^2", "load() = 2", "setSize(18, 3) = 2",
                "page(0, 0) = 0", "page(0, 1) = 1026", "page(1, 0) = 1026", "page(1, 1) = -1", "page(0, 2) = 3",
                "page(1, 2) = 2", "page(0, 3) = 3", "page(0, 4) = 0", "page(0, 5) = 1", "page(1, 5) = 1",
                "setStyle(4, 1) = 0", "page(0, 4) = 0", "type x", "setNote(1) = 0", "page(0, 4) = 2",
                "page(0, 2) = 1", "page(0, 1) = 1000", "page(1, 0) = 1000", "page(1, 4) = 0", "count(4) = 3",
                "page(2, 5) = 1", "setStyle(2, 2) = 0", "page(0, 3) = 1", "page(1, 3) = 3",
                "page(3, 0) = throws IndexOutOfBoundsException", "page(-1, 0) = throws IndexOutOfBoundsException",
                "page(0, 7) = throws IllegalArgumentException", "page(0, -1) = throws IllegalArgumentException",
                "page(3, 7) = throws IndexOutOfBoundsException",
                "page(2147483647, 1) = throws IndexOutOfBoundsException");
        SCRIPT.run("promise 10, each note once", "type a^1 b^1 c^3|d^1", "load() = 2", "page(0, 5) = 2",
                "type x", "setNote(1) = 0", "type y", "setNote(3) = 0", "setStyle(4, 1) = 0", "page(0, 4) = 3",
                "page(0, 3) = 2");
    }

    private static void pagesOfAnnotations() {
        SCRIPT.run("promise 10, annotations",
                "type " + FOUR_LINES, "load() = 1", "setSize(18, 2) = 2", "page(1, 0) = 26",
                "annotate(0, 24, 26, 0) = 0", "page(0, 6) = 1", "page(1, 6) = 0",
                "annotate(0, 25, 27, 0) = 1", "page(0, 6) = 2", "page(1, 6) = 1",
                "annotate(0, 26, 27, 0) = 2", "page(0, 6) = 2", "page(1, 6) = 2",
                "annotate(0, 0, 51, 0) = 3", "page(0, 6) = 3", "page(1, 6) = 3",
                "delete(0, 2, 1) = 3", "annotation(2, 4) = 1", "page(1, 0) = 26", "page(0, 6) = 3",
                "page(1, 6) = 1");
    }

    private static void line() {
        SCRIPT.run("promise 11",
                "type a bb|" + FOUR_LINES, "load() = 2", "setSize(18, 2) = 3",
                "line(0, 0) = 0", "line(0, 1) = 0", "line(0, 2) = 2", "line(0, 3) = 6", "line(0, 4) = 0",
                "line(0, 5) = 0", "line(1, 0) = 1", "line(1, 5) = 1", "line(3, 0) = 1", "line(3, 1) = 2",
                "line(3, 2) = 1", "line(3, 3) = 12", "line(3, 4) = 1", "line(3, 5) = 1", "line(4, 4) = 2",
                "line(4, 5) = 0", "line(5, 0) = throws IndexOutOfBoundsException",
                "line(-1, 0) = throws IndexOutOfBoundsException", "line(0, 6) = throws IllegalArgumentException",
                "line(0, -1) = throws IllegalArgumentException", "line(5, 6) = throws IndexOutOfBoundsException",
                "line(2147483647, 2) = throws IndexOutOfBoundsException");
    }

    private static void shown() {
        SCRIPT.run("promise 12",
                "type #Hi|a b^1|>cd", "load() = 3", "setStyle(2, 1) = 0", "setSize(18, 5) = 1",
                "shown(0, 0, 0) = 72", "shown(0, 0, 1) = 105", "shown(0, 0, 2) = 32", "shown(0, 1, 0) = 32",
                "shown(0, 2, 0) = 32", "shown(0, 2, 1) = 32", "shown(0, 2, 2) = 97", "shown(0, 2, 3) = 32",
                "shown(0, 2, 4) = 98", "shown(0, 2, 5) = 94", "shown(0, 2, 6) = 49", "shown(0, 2, 7) = 32",
                "shown(0, 3, 2) = 32", "shown(0, 4, 3) = 32", "shown(0, 4, 4) = 99", "shown(0, 4, 5) = 100",
                "shown(0, 4, 6) = 32", "shown(0, 4, 17) = 32",
                "shown(1, 0, 0) = throws IndexOutOfBoundsException",
                "shown(-1, 0, 0) = throws IndexOutOfBoundsException",
                "shown(1, 9, 9) = throws IndexOutOfBoundsException",
                "shown(0, 5, 0) = throws IllegalArgumentException",
                "shown(0, -1, 0) = throws IllegalArgumentException",
                "shown(0, 0, 18) = throws IllegalArgumentException",
                "shown(0, 0, -1) = throws IllegalArgumentException");
        SCRIPT.run("promise 12, the second page", "type a|b|c", "load() = 3", "setSize(18, 2) = 2",
                "shown(1, 0, 2) = 99", "shown(1, 1, 2) = 32", "shown(0, 1, 2) = 98");
        SCRIPT.run("promise 12, a line ends with its last word", "type " + FOUR_LINES, "load() = 1",
                "setSize(18, 8) = 1", "shown(0, 0, 13) = 98", "shown(0, 0, 14) = 32", "shown(0, 0, 15) = 32",
                "shown(0, 1, 0) = 99", "shown(0, 3, 11) = 101", "shown(0, 3, 12) = 32");
    }

    private static void shownNotes() {
        SCRIPT.run("notes at the foot",
                "type b^2 a^1", "load() = 1", "type one", "setNote(1) = 0", "setStyle(4, 1) = 0",
                "shown(0, 5, 0) = 32", "shown(0, 6, 0) = 45", "shown(0, 6, 29) = 45", "shown(0, 7, 0) = 49",
                "shown(0, 7, 1) = 32", "shown(0, 7, 2) = 111", "shown(0, 7, 4) = 101", "shown(0, 7, 5) = 32",
                "type two", "setNote(2) = 0", "shown(0, 5, 9) = 45", "shown(0, 6, 0) = 49", "shown(0, 7, 0) = 50",
                "shown(0, 7, 2) = 116", "setStyle(4, 0) = 1", "shown(0, 7, 0) = 32");
        SCRIPT.run("notes, lines of a note",
                "type a^0", "load() = 1", "type " + FOUR_LINES, "setNote(0) = 0", "setStyle(4, 1) = 0",
                "setSize(18, 8) = 1", "page(0, 4) = 5", "shown(0, 3, 17) = 45", "shown(0, 4, 0) = 48",
                "shown(0, 4, 2) = 98", "shown(0, 4, 13) = 98", "shown(0, 4, 14) = 32", "shown(0, 5, 0) = 99",
                "shown(0, 7, 0) = 101", "shown(0, 7, 12) = 32");
        SCRIPT.run("notes, references in their texts",
                "type a^1", "load() = 1", "type see^2", "setNote(1) = 0", "type two", "setNote(2) = 0",
                "setStyle(4, 1) = 0", "page(0, 4) = 2", "page(0, 5) = 1", "shown(0, 7, 5) = 94",
                "noteOn(0, 1) = throws IndexOutOfBoundsException");
        SCRIPT.run("notes stay when another book is read",
                "type x", "setNote(7) = 0", "type a^7", "load() = 1", "setStyle(4, 1) = 0", "page(0, 4) = 2",
                "type b", "load() = 1", "page(0, 4) = 0", "type c^7", "load() = 1", "page(0, 4) = 2");
    }

    private static void notesThatDoNotFit() {
        SCRIPT.run("notes, too many rows for a line alone",
                "type a^1|b", "load() = 2", "type " + LONG + " " + LONG, "setNote(1) = 0", "setStyle(4, 1) = 0",
                "setSize(18, 2) = 2", "page(0, 2) = 1", "page(0, 4) = 3", "shown(0, 0, 2) = 97",
                "shown(0, 1, 0) = 45", "setSize(18, 3) = 2", "shown(0, 2, 0) = 49", "setSize(18, 4) = 2",
                "shown(0, 3, 0) = 98", "setSize(18, 5) = 1", "shown(0, 1, 2) = 98", "shown(0, 2, 0) = 45");
        SCRIPT.run("notes, they break a page",
                "type a^1|b", "load() = 2", "type x", "setNote(1) = 0", "setSize(18, 3) = 1",
                "setStyle(4, 1) = 0", "count(4) = 2", "setSize(18, 4) = 1");
    }

    private static void noteOn() {
        SCRIPT.run("promise 13",
                "type b^9 a^1 b^9 c^4|#d^0", "load() = 2", "setSize(18, 2) = 2",
                "noteOn(0, 0) = 1", "noteOn(0, 1) = 4", "noteOn(0, 2) = 9",
                "noteOn(0, 3) = throws IndexOutOfBoundsException",
                "noteOn(0, -1) = throws IndexOutOfBoundsException", "noteOn(1, 0) = 0",
                "noteOn(1, 1) = throws IndexOutOfBoundsException",
                "noteOn(2, 0) = throws IndexOutOfBoundsException",
                "noteOn(-1, 0) = throws IndexOutOfBoundsException",
                "noteOn(0, 2147483647) = throws IndexOutOfBoundsException",
                "noteOn(0, -2147483648) = throws IndexOutOfBoundsException");
    }

    private static void pageOf() {
        SCRIPT.run("promise 14",
                "type " + FOUR_LINES + "|a", "load() = 2", "setSize(18, 2) = 3",
                "pageOf(0, 0) = 0", "pageOf(0, 25) = 0", "pageOf(0, 26) = 1", "pageOf(0, 50) = 1",
                "pageOf(1, 0) = 2", "pageOf(0, 51) = throws IndexOutOfBoundsException",
                "pageOf(0, -1) = throws IndexOutOfBoundsException",
                "pageOf(1, 1) = throws IndexOutOfBoundsException",
                "pageOf(2, 0) = throws IndexOutOfBoundsException",
                "pageOf(-1, 0) = throws IndexOutOfBoundsException",
                "pageOf(0, 2147483647) = throws IndexOutOfBoundsException",
                "pageOf(2147483647, 0) = throws IndexOutOfBoundsException");
    }

    private static void floating() {
        SCRIPT.run("promise 15",
                "type " + FOUR_LINES + "|a", "load() = 2", "setSize(18, 3) = 2",
                "floating(0, true) = 3", "floating(1, true) = 4", "floating(2, true) = 5", "floating(4, true) = 5",
                "floating(0, false) = -1", "floating(1, false) = -1", "floating(2, false) = -1",
                "floating(3, false) = 0", "floating(4, false) = 1",
                "floating(5, true) = throws IndexOutOfBoundsException",
                "floating(5, false) = throws IndexOutOfBoundsException",
                "floating(-1, true) = throws IndexOutOfBoundsException",
                "floating(-1, false) = throws IndexOutOfBoundsException",
                "setStyle(3, 1) = 0", "floating(0, true) = 2", "floating(1, true) = 4", "floating(2, true) = 5",
                "floating(2, false) = 0", "floating(3, false) = -1", "floating(4, false) = 1");
    }
}
