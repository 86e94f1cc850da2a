/** Boundary cases of promises 16 to 22: the reader, and what is told of the book. */
public final class ReaderEdgesTest {
    private static final Edges EDGES = new Edges();
    private static final String INDEX = Edges.INDEX;
    private static final String ARGUMENT = Edges.ARGUMENT;
    private static final String STATE = Edges.STATE;
    private static final String TWELVE_WORDS = Edges.TWELVE_WORDS;
    /** Three pages: the paragraphs 0 and 1, the paragraphs 2 and 3, and the paragraph 4. */
    private static final String[] THREE_PAGES = {"type ab|cd|ef|gh|ij", "load() = 5", "setSize(18, 2) = 3"};
    /** Five jumps, from the offsets 0, 2, 4, 6 and 8. */
    private static final String[] FIVE_JUMPS = {"type a b c d e f g", "load() = 1", "go(0, 2) = 0", "go(0, 4) = 0",
        "go(0, 6) = 0", "go(0, 8) = 0", "go(0, 10) = 0"};

    public static void main(String[] args) {
        goPositions();
        goJumps();
        turn();
        back();
        findPlaces();
        findWords();
        findRefuses();
        countArguments();
        countLeastAndGreatest();
        countThousandths();
        paragraph();
        letter();
        EDGES.end();
    }

    // ---- promise 16

    private static void goPositions() {
        EDGES.edge("promise 16, go: the first position", Edges.joined(THREE_PAGES, "go(0, 0) = 0", "count(6) = 0"));
        EDGES.edge("promise 16, go: just below the least offset", Edges.joined(THREE_PAGES, "go(0, -1)" + INDEX,
                "go(1, -1)" + INDEX));
        EDGES.edge("promise 16, go: the greatest offset", Edges.joined(THREE_PAGES, "go(0, 1) = 0", "count(6) = 1",
                "go(4, 1) = 2", "count(6) = 4001"));
        EDGES.edge("promise 16, go: just above the greatest offset", Edges.joined(THREE_PAGES, "go(0, 2)" + INDEX,
                "go(4, 2)" + INDEX));
        EDGES.edge("promise 16, go: just below the least paragraph", Edges.joined(THREE_PAGES, "go(-1, 0)" + INDEX));
        EDGES.edge("promise 16, go: the greatest paragraph", Edges.joined(THREE_PAGES, "go(4, 0) = 2",
                "count(6) = 4000"));
        EDGES.edge("promise 16, go: just above the greatest paragraph", Edges.joined(THREE_PAGES, "go(5, 0)" + INDEX));
        EDGES.edge("promise 16, go: far out", Edges.joined(THREE_PAGES, "go(" + Edges.LEAST_INT + ", 0)" + INDEX,
                "go(" + Edges.GREATEST_INT + ", 0)" + INDEX, "go(0, " + Edges.LEAST_INT + ")" + INDEX,
                "go(0, " + Edges.GREATEST_INT + ")" + INDEX));
        EDGES.edge("promise 16, go: the greatest position that there is", Edges.joined(Edges.LONGEST, "go(9, 358) = 2",
                "count(6) = 9358", "go(9, 359)" + INDEX, "go(10, 0)" + INDEX));
        EDGES.edge("promise 16, go: a blank at the end of a page", "type " + Edges.FOUR_LINES, "load() = 1",
                "setSize(18, 2) = 2", "go(0, 25) = 0", "count(5) = 0", "go(0, 26) = 1", "count(5) = 1");
    }

    private static void goJumps() {
        EDGES.edge("promise 16, go: the first jump", Edges.joined(THREE_PAGES, "go(2, 1) = 1", "count(9) = 1",
                "back() = 0", "count(6) = 0"));
        EDGES.edge("promise 16, go: a jump to the present position is kept", "count(9) = 0", "go(0, 0) = 0",
                "count(9) = 1", "go(0, 0) = 0", "count(9) = 2");
        EDGES.edge("promise 16, go: the fifth jump is kept with the first one", Edges.joined(FIVE_JUMPS,
                "count(9) = 5", "back() = 0", "count(6) = 8", "back() = 0", "back() = 0", "back() = 0",
                "count(6) = 2", "back() = 0", "count(6) = 0", "count(9) = 0"));
        EDGES.edge("promise 16, go: the sixth jump discards the oldest one", Edges.joined(FIVE_JUMPS, "go(0, 12) = 0",
                "count(9) = 5", "back() = 0", "count(6) = 10", "back() = 0", "count(6) = 8", "back() = 0",
                "count(6) = 6", "back() = 0", "count(6) = 4", "back() = 0", "count(6) = 2", "back()" + STATE));
        EDGES.edge("promise 16, go: the seventh jump discards the next one", Edges.joined(FIVE_JUMPS, "go(0, 12) = 0",
                "go(0, 1) = 0", "count(9) = 5", "back() = 0", "count(6) = 12", "back() = 0", "back() = 0",
                "back() = 0", "back() = 0", "count(6) = 4", "back()" + STATE));
        EDGES.edge("promise 16, go: refused with five jumps", Edges.joined(FIVE_JUMPS, "go(0, 13)" + INDEX,
                "go(1, 0)" + INDEX, "go(0, -1)" + INDEX, "count(9) = 5"));
        EDGES.richEdge("promise 16, go: refused in a full state", "go(4, 0)" + INDEX, "go(3, 2)" + INDEX,
                "count(6) = 3001", "count(9) = 2");
    }

    // ---- promise 17

    private static void turn() {
        EDGES.edge("promise 17, turn: the only page", "still turn(true) = -1", "still turn(false) = -1");
        EDGES.edge("promise 17, turn: back from the first page", Edges.joined(THREE_PAGES, "still turn(false) = -1",
                "go(1, 1) = 0", "still turn(false) = -1", "count(6) = 1001"));
        EDGES.edge("promise 17, turn: forward from the last page", Edges.joined(THREE_PAGES, "go(4, 1) = 2",
                "still turn(true) = -1", "count(6) = 4001"));
        EDGES.edge("promise 17, turn: forward from the last character of a page", Edges.joined(THREE_PAGES,
                "go(1, 1) = 0", "turn(true) = 1", "count(6) = 2000"));
        EDGES.edge("promise 17, turn: forward from the first character of a page", Edges.joined(THREE_PAGES,
                "turn(true) = 1", "count(6) = 2000", "turn(true) = 2", "count(6) = 4000", "turn(true) = -1"));
        EDGES.edge("promise 17, turn: back from the first character of a page", Edges.joined(THREE_PAGES,
                "go(2, 0) = 1", "turn(false) = 0", "count(6) = 0"));
        EDGES.edge("promise 17, turn: back from the last character of a page", Edges.joined(THREE_PAGES,
                "go(3, 1) = 1", "turn(false) = 0", "count(6) = 0"));
        EDGES.edge("promise 17, turn: it is no jump", Edges.joined(THREE_PAGES, "turn(true) = 1", "count(9) = 0",
                "back()" + STATE));
        EDGES.edge("promise 17, turn: with five jumps", "type ab|cd|ef", "load() = 3", "setSize(18, 2) = 2",
                "go(0, 1) = 0", "go(1, 0) = 0", "go(1, 1) = 0", "go(0, 1) = 0", "go(0, 0) = 0", "turn(true) = 1",
                "count(9) = 5", "back() = 0", "count(6) = 1", "back() = 0", "back() = 0", "back() = 0", "back() = 0",
                "count(6) = 0", "back()" + STATE);
        EDGES.edge("promise 17, turn: to a page that is there by the last call alone", "type a|b", "load() = 2",
                "setSize(18, 2) = 1", "setStyle(2, 1) = 0", "turn(true) = 1", "count(6) = 1000", "setStyle(2, 0) = 1",
                "turn(false) = -1", "count(6) = 1000");
        EDGES.edge("promise 17, turn: to a page that begins within a paragraph", "type " + Edges.FOUR_LINES,
                "load() = 1", "setSize(18, 3) = 2", "turn(true) = 1", "count(6) = 39", "turn(false) = 0",
                "count(6) = 0");
    }

    // ---- promise 18

    private static void back() {
        EDGES.edge("promise 18, back: no jump is kept", "back()" + STATE);
        EDGES.edge("promise 18, back: the only jump", Edges.joined(THREE_PAGES, "go(4, 1) = 2", "back() = 0",
                "count(6) = 0", "count(9) = 0", "back()" + STATE));
        EDGES.edge("promise 18, back: the jump is not kept any more", Edges.joined(THREE_PAGES, "go(2, 0) = 1",
                "go(4, 0) = 2", "back() = 1", "count(6) = 2000", "count(9) = 1", "back() = 0", "count(6) = 0",
                "count(9) = 0"));
        EDGES.edge("promise 18, back: it is no jump itself", Edges.joined(THREE_PAGES, "go(2, 0) = 1", "back() = 0",
                "back()" + STATE));
        EDGES.edge("promise 18, back: a jump behind it takes the place of the one gone", Edges.joined(FIVE_JUMPS,
                "back() = 0", "count(9) = 4", "go(0, 12) = 0", "count(9) = 5", "back() = 0", "count(6) = 8",
                "back() = 0", "count(6) = 6", "back() = 0", "back() = 0", "back() = 0", "count(6) = 0",
                "back()" + STATE));
        EDGES.edge("promise 18, back: the page by the present size", Edges.joined(THREE_PAGES, "go(4, 1) = 2",
                "go(0, 0) = 0", "setSize(18, 20) = 1", "back() = 0", "count(6) = 4001", "setSize(18, 2) = 3",
                "count(5) = 2"));
        EDGES.richEdge("promise 18, back: refused in a full state", "back() = 1", "count(6) = 2000", "back() = 0",
                "back()" + STATE, "count(6) = 0");
    }

    // ---- promise 19

    private static void findPlaces() {
        EDGES.edge("promise 19, find: the word at the position itself is not found", "type a", "still find(true) = -1",
                "still find(false) = -1");
        EDGES.edge("promise 19, find: a word that begins just behind the position", "type a b", "load() = 1",
                "go(0, 1) = 0", "type b", "still find(true) = 2", "still find(false) = -1");
        EDGES.edge("promise 19, find: a word that begins just before the position", "type ab c", "load() = 1",
                "go(0, 1) = 0", "type ab", "still find(false) = 0", "still find(true) = -1");
        EDGES.edge("promise 19, find: the last word of the book, from its last character", "type a bc", "load() = 1",
                "go(0, 3) = 0", "type bc", "find(false) = 2", "find(true) = -1");
        EDGES.edge("promise 19, find: the first word of the book, from its last character", "type ab", "load() = 1",
                "go(0, 1) = 0", "type ab", "find(false) = 0", "find(true) = -1");
        EDGES.edge("promise 19, find: the last word, from the first character", "type a b", "load() = 1", "type b",
                "find(true) = 2", "find(false) = -1");
        EDGES.edge("promise 19, find: the first word, from the last character", "type a b", "load() = 1",
                "go(0, 2) = 0", "type a", "find(false) = 0", "find(true) = -1");
        EDGES.edge("promise 19, find: the first of several behind", "type b a a|a", "load() = 2", "type a",
                "find(true) = 2", "go(0, 2) = 0", "find(true) = 4", "go(0, 4) = 0", "find(true) = 1000");
        EDGES.edge("promise 19, find: the last of several before", "type a a|a b", "load() = 2", "go(1, 2) = 0",
                "type a", "find(false) = 1000", "go(1, 0) = 0", "find(false) = 2", "go(0, 2) = 0", "find(false) = 0");
        EDGES.edge("promise 19, find: the first word of the next paragraph", "type ab|c", "load() = 2",
                "go(0, 1) = 0", "type c", "find(true) = 1000");
        EDGES.edge("promise 19, find: the last word of the paragraph before", "type a bc|d", "load() = 2",
                "go(1, 0) = 0", "type bc", "find(false) = 2");
        EDGES.edge("promise 19, find: the greatest position", Edges.joined(Edges.LONGEST, "type abcdefghijkl^5",
                "go(9, 300) = 2", "find(true) = 9345", "go(9, 345) = 2", "find(true) = -1", "find(false) = 9255"));
    }

    private static void findWords() {
        EDGES.edge("promise 19, find: a word that is longer", "type x ab", "load() = 1", "type a", "find(true) = -1");
        EDGES.edge("promise 19, find: a word that is shorter", "type x ab", "load() = 1", "type abc",
                "find(true) = -1");
        EDGES.edge("promise 19, find: another letter case", "type x ab", "load() = 1", "type aB", "find(true) = -1");
        EDGES.edge("promise 19, find: a reference is a part of the word", "type x a^1 a^2 a", "load() = 1", "type a",
                "find(true) = 10", "type ^2", "find(true) = 6", "clearInput() = 3", "type a^1", "find(true) = 2",
                "clearInput() = 3", "type a^3", "find(true) = -1");
        EDGES.edge("promise 19, find: the first word of the buffer alone counts", "type x b a", "load() = 1",
                "type a b", "find(true) = 4", "clearInput() = 3", "type c b", "find(true) = -1");
        EDGES.edge("promise 19, find: a list of twelve words", "type x a", "load() = 1", "type " + TWELVE_WORDS,
                "find(true) = 2");
        EDGES.edge("promise 19, find: the longest word", "type x abcdefghijkl^0 abcdefghijkl^9", "load() = 1",
                "type abcdefghijkl^9", "find(true) = 17");
        EDGES.edge("promise 19, find: words of headings and quotes", "type x|#h|>q", "load() = 3", "type h",
                "find(true) = 1000", "clearInput() = 1", "type q", "find(true) = 2000");
        EDGES.edge("promise 19, find: no word of a note", "type n", "setNote(0) = 0", "type x y", "load() = 1",
                "type n", "find(true) = -1");
        EDGES.richEdge("promise 19, find: the reader and the buffer stay", "still find(true) = -1",
                "still find(false) = -1", "clearInput() = 3", "type ef", "still find(false) = 2000", "count(6) = 3001",
                "clearInput() = 2");
    }

    private static void findRefuses() {
        EDGES.edge("promise 19, find: an empty buffer", "find(true)" + STATE, "find(false)" + STATE);
        EDGES.edge("promise 19, find: thirteen words", "type " + TWELVE_WORDS + " m", "find(true)" + STATE,
                "find(false)" + STATE, "clearInput() = 25");
        for (String text : new String[] {"a ", " a", "a^", "#a", ">a", "a|b", "a-", "abcdefghijklm", "a^1^2"}) {
            EDGES.edge("promise 19, find: \"" + text + "\" is no word list", "type " + text, "find(true)" + STATE,
                    "find(false)" + STATE, "clearInput() = " + text.length());
        }
        EDGES.richEdge("promise 19, find: refused in a full state", "type |", "find(true)" + STATE,
                "find(false)" + STATE, "clearInput() = 4");
    }

    // ---- promise 20

    private static void countArguments() {
        EDGES.richEdge("promise 20, count: just below the least number", "count(-1)" + ARGUMENT);
        EDGES.richEdge("promise 20, count: each number", "still count(0) = 4", "still count(1) = 4",
                "still count(2) = 11", "still count(3) = 4", "still count(4) = 2", "still count(5) = 1",
                "still count(6) = 3001", "still count(7) = 3", "still count(8) = 1", "still count(9) = 2",
                "still count(10) = 2", "still count(11) = 909");
        EDGES.richEdge("promise 20, count: just above the greatest number", "count(12)" + ARGUMENT);
        EDGES.richEdge("promise 20, count: numbers far out", "count(" + Edges.LEAST_INT + ")" + ARGUMENT,
                "count(" + Edges.GREATEST_INT + ")" + ARGUMENT);
    }

    private static void countLeastAndGreatest() {
        EDGES.edge("promise 20, count: the longest paragraph", Edges.joined(Edges.LONGEST, "count(0) = 10",
                "count(1) = 33", "count(2) = 368", "count(10) = 4", "count(6) = 0"));
        EDGES.edge("promise 20, count: the blanks count as characters, what is between paragraphs does not",
                "type a b|c", "load() = 2", "count(2) = 4");
        EDGES.edge("promise 20, count: the present page at the ends of a page", Edges.joined(THREE_PAGES,
                "go(1, 1) = 0", "count(5) = 0", "go(2, 0) = 1", "count(5) = 1", "go(3, 1) = 1", "count(5) = 1",
                "go(4, 0) = 2", "count(5) = 2"));
        EDGES.edge("promise 20, count: five jumps", Edges.joined(FIVE_JUMPS, "count(9) = 5", "go(0, 0) = 0",
                "count(9) = 5"));
        EDGES.edge("promise 20, count: four edits", "type a b c d e f", "load() = 1", "count(10) = 0",
                "delete(0, 0, 1) = 5", "count(10) = 1", "delete(0, 0, 1) = 4", "delete(0, 0, 1) = 3",
                "delete(0, 0, 1) = 2", "count(10) = 4", "delete(0, 0, 1) = 1", "count(10) = 4");
        EDGES.edge("promise 20, count: all annotations are lost", "type ab cd", "load() = 1",
                "annotate(0, 3, 5, 0) = 0", "annotate(0, 2, 4, 0) = 1", "count(7) = 2", "count(8) = 0",
                "delete(0, 1, 1) = 1", "count(7) = 2", "count(8) = 2", "removeAnnotation(0) = 1", "count(8) = 1");
        EDGES.edge("promise 20, count: a line for each paragraph and a page for each line",
                "type " + Edges.TEN_PARAGRAPHS, "load() = 10", "setStyle(2, 2) = 0", "setSize(18, 2) = 10",
                "count(3) = 10", "count(4) = 10");
        EDGES.edge("promise 20, count: the greatest book", greatestBook());
    }

    /** Ten paragraphs of twenty-four words each, as many as a book may have. */
    private static String[] greatestBook() {
        String five = "a b c d e";
        String[] rows = {"type " + five + ("|" + five).repeat(9), "load() = 10"};
        for (int paragraph = 0; paragraph < 10; paragraph++) {
            rows = Edges.joined(rows, "type " + TWELVE_WORDS, "insert(" + paragraph + ", 5) = 17",
                    "type a b c d e f g", "insert(" + paragraph + ", 0) = 24");
        }
        return Edges.joined(rows, "count(0) = 10", "count(1) = 240", "count(2) = 470", "count(3) = 20",
                "paragraph(9, 1) = 24", "paragraph(9, 2) = 47", "letter(9, 46) = 108", "pageOf(9, 46) = 2",
                "setSize(18, 2) = 15", "count(3) = 30", "setSize(60, 20) = 1", "count(3) = 10");
    }

    private static void countThousandths() {
        EDGES.edge("promise 20, count: no character before the reader", "count(11) = 0");
        EDGES.edge("promise 20, count: characters before the reader, rounded down", "type abc", "load() = 1",
                "go(0, 1) = 0", "count(11) = 333", "go(0, 2) = 0", "count(11) = 666");
        EDGES.edge("promise 20, count: characters of the paragraphs before", "type ab|c", "load() = 2",
                "go(1, 0) = 0", "count(11) = 666");
        EDGES.edge("promise 20, count: a blank before the reader", "type a b", "load() = 1", "go(0, 2) = 0",
                "count(11) = 666");
        EDGES.edge("promise 20, count: a number that needs no rounding", "type abcd", "load() = 1", "go(0, 1) = 0",
                "count(11) = 250", "go(0, 3) = 0", "count(11) = 750");
        EDGES.edge("promise 20, count: the last character of a long book", Edges.joined(Edges.LONGEST,
                "go(9, 358) = 2", "count(11) = 997"));
    }

    // ---- promise 21

    private static void paragraph() {
        EDGES.richEdge("promise 21, paragraph: the first one", "still paragraph(0, 0) = 1", "still paragraph(0, 1) = 1",
                "still paragraph(0, 2) = 3", "still paragraph(0, 3) = 1", "still paragraph(0, 4) = 0");
        EDGES.richEdge("promise 21, paragraph: just below the first one", "paragraph(-1, 0)" + INDEX);
        EDGES.richEdge("promise 21, paragraph: the last one", "paragraph(3, 0) = 2", "paragraph(3, 1) = 1",
                "paragraph(3, 2) = 2", "paragraph(3, 3) = 1", "paragraph(3, 4) = 1");
        EDGES.richEdge("promise 21, paragraph: just above the last one", "paragraph(4, 0)" + INDEX);
        EDGES.richEdge("promise 21, paragraph: far out", "paragraph(" + Edges.LEAST_INT + ", 0)" + INDEX,
                "paragraph(" + Edges.GREATEST_INT + ", 1)" + INDEX);
        EDGES.richEdge("promise 21, paragraph: just below the least property", "paragraph(0, -1)" + ARGUMENT);
        EDGES.richEdge("promise 21, paragraph: just above the greatest property", "paragraph(0, 5)" + ARGUMENT);
        EDGES.richEdge("promise 21, paragraph: properties far out", "paragraph(0, " + Edges.LEAST_INT + ")" + ARGUMENT,
                "paragraph(0, " + Edges.GREATEST_INT + ")" + ARGUMENT);
        EDGES.richEdge("promise 21, paragraph: paragraph and property wrong", "paragraph(-1, -1)" + INDEX,
                "paragraph(4, 5)" + INDEX);
        EDGES.edge("promise 21, paragraph: the longest one", Edges.joined(Edges.LONGEST, "paragraph(9, 1) = 24",
                "paragraph(9, 2) = 359", "paragraph(9, 3) = 13", "paragraph(8, 2) = 1", "setSize(18, 20) = 2",
                "paragraph(9, 3) = 24"));
        EDGES.edge("promise 21, paragraph: the page of its first character, not of its last one",
                "type a|" + Edges.FOUR_LINES + "|b", "load() = 3", "setSize(18, 2) = 3", "paragraph(1, 4) = 0",
                "paragraph(1, 3) = 4", "paragraph(2, 4) = 2");
    }

    // ---- promise 22

    private static void letter() {
        EDGES.richEdge("promise 22, letter: the first one", "still letter(0, 0) = 84");
        EDGES.richEdge("promise 22, letter: just below the first one", "letter(0, -1)" + INDEX,
                "letter(1, -1)" + INDEX);
        EDGES.richEdge("promise 22, letter: the last one of a paragraph", "still letter(0, 2) = 112",
                "still letter(1, 3) = 49", "still letter(3, 1) = 104");
        EDGES.richEdge("promise 22, letter: just above the last one", "letter(0, 3)" + INDEX, "letter(1, 4)" + INDEX,
                "letter(3, 2)" + INDEX);
        EDGES.richEdge("promise 22, letter: just below the least paragraph", "letter(-1, 0)" + INDEX);
        EDGES.richEdge("promise 22, letter: just above the greatest paragraph", "letter(4, 0)" + INDEX);
        EDGES.richEdge("promise 22, letter: far out", "letter(" + Edges.LEAST_INT + ", 0)" + INDEX,
                "letter(" + Edges.GREATEST_INT + ", 0)" + INDEX, "letter(0, " + Edges.LEAST_INT + ")" + INDEX,
                "letter(0, " + Edges.GREATEST_INT + ")" + INDEX);
        EDGES.edge("promise 22, letter: the last one of the longest paragraph", Edges.joined(Edges.LONGEST,
                "letter(9, 0) = 97", "letter(9, 14) = 32", "letter(9, 15) = 97", "letter(9, 357) = 94",
                "letter(9, 358) = 53", "letter(9, 359)" + INDEX));
        EDGES.edge("promise 22, letter: each kind of sign", "type azAZ09.,' b^7", "load() = 1", "letter(0, 0) = 97",
                "letter(0, 1) = 122", "letter(0, 2) = 65", "letter(0, 3) = 90", "letter(0, 4) = 48",
                "letter(0, 5) = 57", "letter(0, 6) = 46", "letter(0, 7) = 44", "letter(0, 8) = 39",
                "letter(0, 9) = 32", "letter(0, 11) = 94", "letter(0, 12) = 55");
    }
}
