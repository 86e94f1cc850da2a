/** Boundary cases of promises 26 to 30: edits, and how they change annotations and positions. */
public final class EditsEdgesTest {
    private static final Edges EDGES = new Edges();
    private static final String INDEX = Edges.INDEX;
    private static final String STATE = Edges.STATE;
    private static final String TWELVE_WORDS = Edges.TWELVE_WORDS;
    private static final String TEN_PARAGRAPHS = Edges.TEN_PARAGRAPHS;
    /** The words of the middle paragraph begin at 0, 3, 6 and 9; its text has 11 characters. */
    private static final String[] BOOK = {"type xy z|ab cd ef gh|uvw", "load() = 3"};

    public static void main(String[] args) {
        insertArguments();
        insertWords();
        insertRefuses();
        insertMovesAnnotations();
        insertMovesPositions();
        insertMovesLost();
        deleteArguments();
        deleteWords();
        deleteMovesAnnotations();
        deleteLastMovesAnnotations();
        deleteMovesPositions();
        deleteMovesLost();
        splitArguments();
        splitTexts();
        splitMovesAnnotations();
        splitMovesPositions();
        splitMovesLost();
        joinArguments();
        joinTexts();
        joinMoves();
        undoCounts();
        undoRestores();
        undoLeaves();
        EDGES.end();
    }

    private static void edge(String name, String... rows) {
        EDGES.edge(name, Edges.joined(BOOK, rows));
    }

    /** An annotation of the middle paragraph before and behind an edit; a lost one ends where it begins. */
    private static void annotationMoves(String name, int from, int to, String[] edit, int newFrom, int newTo) {
        String[] rows = Edges.joined(new String[] {"annotate(1, " + from + ", " + to + ", 5) = 0"}, edit);
        edge(name, Edges.joined(rows, "annotation(0, 0) = 1", "annotation(0, 1) = " + newFrom,
                "annotation(0, 2) = " + newTo, "annotation(0, 3) = 5",
                "annotation(0, 4) = " + (newFrom == newTo ? 1 : 0), "count(8) = " + (newFrom == newTo ? 1 : 0),
                "undo() = 0", "annotation(0, 1) = " + from, "annotation(0, 2) = " + to, "annotation(0, 4) = 0"));
    }

    /**
     * The reader, the latest jump and the oldest of five jumps at an offset of the middle paragraph before an edit,
     * and their position behind it.
     */
    private static void positionMoves(String name, int offset, String[] edit, int position) {
        String[] reader = Edges.joined(new String[] {"go(1, " + offset + ") = 0"}, edit);
        edge(name + ", the reader", Edges.joined(reader, "count(6) = " + position, "undo() = 0",
                "count(6) = " + (1000 + offset)));
        String[] jump = Edges.joined(new String[] {"go(1, " + offset + ") = 0", "go(0, 0) = 0"}, edit);
        edge(name + ", a jump", Edges.joined(jump, "back() = 0", "count(6) = " + position, "undo() = 0", "back() = 0",
                "count(6) = " + (1000 + offset)));
        String[] oldest = Edges.joined(new String[] {"go(1, " + offset + ") = 0", "go(0, 0) = 0", "go(0, 0) = 0",
            "go(0, 0) = 0", "go(0, 0) = 0", "go(0, 0) = 0", "count(9) = 5"}, edit);
        edge(name + ", the oldest of five jumps", Edges.joined(oldest, "back() = 0", "back() = 0", "back() = 0",
                "back() = 0", "back() = 0", "count(6) = " + position, "count(9) = 0"));
    }

    // ---- promise 26

    private static void insertArguments() {
        edge("promise 26, insert: the least word", "type n", "insert(1, 0) = 5", "letter(1, 0) = 110",
                "letter(1, 1) = 32", "letter(1, 2) = 97", "paragraph(1, 2) = 13");
        edge("promise 26, insert: just below the least word", "type n", "insert(1, -1)" + INDEX,
                "insert(0, -1)" + INDEX);
        edge("promise 26, insert: before the last word", "type n", "insert(1, 3) = 5", "letter(1, 8) = 32",
                "letter(1, 9) = 110", "letter(1, 10) = 32", "letter(1, 11) = 103");
        edge("promise 26, insert: the greatest word, behind the last one", "type n", "insert(1, 4) = 5",
                "letter(1, 10) = 104", "letter(1, 11) = 32", "letter(1, 12) = 110", "letter(1, 13)" + INDEX,
                "letter(2, 0) = 117");
        edge("promise 26, insert: just above the greatest word", "type n", "insert(1, 5)" + INDEX,
                "insert(0, 3)" + INDEX, "insert(2, 2)" + INDEX);
        edge("promise 26, insert: just below the least paragraph", "type n", "insert(-1, 0)" + INDEX);
        edge("promise 26, insert: the greatest paragraph", "type n", "insert(2, 1) = 2", "letter(2, 4) = 110");
        edge("promise 26, insert: just above the greatest paragraph", "type n", "insert(3, 0)" + INDEX);
        edge("promise 26, insert: far out", "type n", "insert(" + Edges.LEAST_INT + ", 0)" + INDEX,
                "insert(" + Edges.GREATEST_INT + ", 0)" + INDEX, "insert(0, " + Edges.LEAST_INT + ")" + INDEX,
                "insert(0, " + Edges.GREATEST_INT + ")" + INDEX);
        edge("promise 26, insert: a wrong word and an empty buffer", "insert(1, 5)" + INDEX, "insert(3, 0)" + INDEX,
                "insert(1, -1)" + INDEX);
    }

    private static void insertWords() {
        edge("promise 26, insert: one word", "type n", "insert(0, 1) = 3", "paragraph(0, 1) = 3", "count(1) = 8");
        edge("promise 26, insert: twelve words", "type " + TWELVE_WORDS, "insert(0, 1) = 14", "paragraph(0, 2) = 28",
                "letter(0, 3) = 97", "letter(0, 25) = 108", "letter(0, 26) = 32", "letter(0, 27) = 122");
        edge("promise 26, insert: words with a reference", "type n^0 m^9", "insert(0, 2) = 4", "letter(0, 6) = 94",
                "letter(0, 7) = 48", "letter(0, 11) = 57", "page(0, 5) = 2");
        edge("promise 26, insert: the buffer is cleared", "type n m", "insert(0, 0) = 4", "clearInput() = 0");
        edge("promise 26, insert: the kind stays", "type #h", "load() = 1", "type n", "insert(0, 0) = 2",
                "paragraph(0, 0) = 1", "type >q", "load() = 1", "type n", "insert(0, 1) = 2", "paragraph(0, 0) = 2");
        edge("promise 26, insert: it is an edit", "type n", "insert(0, 0) = 3", "count(10) = 1", "undo() = 0",
                "paragraph(0, 1) = 2");
        EDGES.edge("promise 26, insert: up to twenty-four words", "type " + TWELVE_WORDS, "load() = 1",
                "type " + TWELVE_WORDS, "insert(0, 12) = 24", "paragraph(0, 1) = 24");
        EDGES.edge("promise 26, insert: one word more than twenty-four", "type " + TWELVE_WORDS + " m", "load() = 1",
                "type " + TWELVE_WORDS, "insert(0, 13)" + STATE, "insert(0, 0)" + STATE, "clearInput() = 23",
                "paragraph(0, 1) = 13", "count(10) = 0");
        EDGES.edge("promise 26, insert: the twenty-fourth word alone",
                "type " + TWELVE_WORDS + " b c d e f g h i j k l",
                "load() = 1", "paragraph(0, 1) = 23", "type n", "insert(0, 23) = 24", "type m", "insert(0, 24)" + STATE,
                "insert(0, 25)" + INDEX);
    }

    private static void insertRefuses() {
        edge("promise 26, insert: an empty buffer", "insert(1, 0)" + STATE, "insert(1, 4)" + STATE);
        edge("promise 26, insert: thirteen words", "type " + TWELVE_WORDS + " m", "insert(1, 0)" + STATE,
                "clearInput() = 25");
        for (String text : new String[] {"n ", " n", "n^", "#n", ">n", "n|m", "n-", "abcdefghijklm", "n^1^2"}) {
            edge("promise 26, insert: \"" + text + "\" is no word list", "type " + text, "insert(1, 0)" + STATE,
                    "insert(1, 4)" + STATE, "insert(1, 5)" + INDEX, "clearInput() = " + text.length());
        }
        EDGES.edge("promise 26, insert: a full paragraph and no word list", "type " + TWELVE_WORDS + " " + TWELVE_WORDS,
                "load() = 1", "type n|", "insert(0, 0)" + STATE, "insert(0, 25)" + INDEX, "clearInput() = 2");
        EDGES.richEdge("promise 26, insert: refused in a full state", "insert(4, 0)" + INDEX, "insert(3, 2)" + INDEX,
                "insert(3, -1)" + INDEX, "type |", "insert(3, 0)" + STATE, "count(10) = 2", "clearInput() = 4");
        edge("promise 26, insert: refused with four edits", "type n", "insert(0, 0) = 3", "type n", "insert(0, 0) = 4",
                "type n", "insert(0, 0) = 5", "type n", "insert(0, 0) = 6", "insert(0, 0)" + STATE, "type m",
                "insert(0, 7)" + INDEX, "count(10) = 4");
    }

    /** Two characters come in before the word that begins at 3. */
    private static void insertMovesAnnotations() {
        String[] insert = {"type n", "insert(1, 1) = 5"};
        String name = "promise 26, insert: an annotation that ";
        annotationMoves(name + "ends before the blank", 0, 2, insert, 0, 2);
        annotationMoves(name + "ends just where characters come in", 0, 3, insert, 0, 3);
        annotationMoves(name + "ends one character behind that", 0, 4, insert, 0, 6);
        annotationMoves(name + "begins just where characters come in", 3, 5, insert, 5, 7);
        annotationMoves(name + "begins one character before that", 2, 5, insert, 2, 7);
        annotationMoves(name + "begins one character behind that", 4, 5, insert, 6, 7);
        annotationMoves(name + "is the blank before", 2, 3, insert, 2, 3);
        annotationMoves(name + "is the whole text", 0, 11, insert, 0, 13);
        String[] first = {"type n", "insert(1, 0) = 5"};
        annotationMoves(name + "begins with the text, before which words come in", 0, 11, first, 2, 13);
        String[] last = {"type n", "insert(1, 4) = 5"};
        annotationMoves(name + "ends with the text, behind which words come in", 9, 11, last, 9, 11);
        annotationMoves(name + "is the last character, behind which words come in", 10, 11, last, 10, 11);
        annotationMoves(name + "is in the text behind which words come in", 0, 10, last, 0, 10);
        edge("promise 26, insert: annotations of other paragraphs", "annotate(0, 0, 4, 1) = 0",
                "annotate(2, 0, 3, 2) = 1", "type n", "insert(1, 0) = 5", "type n", "insert(1, 5) = 6",
                "annotation(0, 0) = 0", "annotation(0, 1) = 0", "annotation(0, 2) = 4", "annotation(1, 0) = 2",
                "annotation(1, 1) = 0", "annotation(1, 2) = 3");
    }

    private static void insertMovesPositions() {
        String[] insert = {"type nm o", "insert(1, 1) = 6"};
        positionMoves("promise 26, insert: just where characters come in", 3, insert, 1008);
        positionMoves("promise 26, insert: one character before that", 2, insert, 1002);
        positionMoves("promise 26, insert: one character behind that", 4, insert, 1009);
        positionMoves("promise 26, insert: the first character", 0, new String[] {"type n", "insert(1, 0) = 5"}, 1002);
        positionMoves("promise 26, insert: the last character, words behind it", 10,
                new String[] {"type n", "insert(1, 4) = 5"}, 1010);
        positionMoves("promise 26, insert: words behind the paragraph before", 0,
                new String[] {"type n", "insert(0, 2) = 3"}, 1000);
        positionMoves("promise 26, insert: words before the paragraph behind", 10,
                new String[] {"type n", "insert(2, 0) = 2"}, 1010);
    }

    private static void insertMovesLost() {
        String[] lostAtThree = {"annotate(1, 3, 5, 5) = 0", "delete(1, 1, 1) = 3", "annotation(0, 1) = 3"};
        edge("promise 26, insert: a lost annotation just where characters come in", Edges.joined(lostAtThree, "type n",
                "insert(1, 1) = 4", "annotation(0, 1) = 5", "annotation(0, 2) = 5", "annotation(0, 4) = 1"));
        edge("promise 26, insert: a lost annotation before that", Edges.joined(lostAtThree, "type n",
                "insert(1, 2) = 4", "annotation(0, 1) = 3", "annotation(0, 2) = 3", "annotation(0, 4) = 1"));
        edge("promise 26, insert: a lost annotation behind that", Edges.joined(lostAtThree, "type n",
                "insert(1, 0) = 4", "annotation(0, 1) = 5", "annotation(0, 2) = 5", "annotation(0, 4) = 1"));
        String[] lostAtEnd = {"annotate(1, 9, 11, 5) = 0", "delete(1, 3, 1) = 3", "annotation(0, 1) = 8"};
        edge("promise 26, insert: a lost annotation at the end of the text", Edges.joined(lostAtEnd, "type n",
                "insert(1, 3) = 4", "annotation(0, 0) = 1", "annotation(0, 1) = 10", "annotation(0, 2) = 10",
                "annotation(0, 4) = 1"));
        edge("promise 26, insert: a lost annotation at the end, words in the next paragraph", Edges.joined(lostAtEnd,
                "type n", "insert(2, 0) = 2", "annotation(0, 0) = 1", "annotation(0, 1) = 8", "annotation(0, 2) = 8"));
    }

    // ---- promise 27

    private static void deleteArguments() {
        edge("promise 27, delete: the first word", "delete(1, 0, 1) = 3", "letter(1, 0) = 99", "paragraph(1, 2) = 8");
        edge("promise 27, delete: just below the first word", "delete(1, -1, 1)" + INDEX, "delete(1, -1, 2)" + INDEX);
        edge("promise 27, delete: the last word", "delete(1, 3, 1) = 3", "letter(1, 7) = 102", "paragraph(1, 2) = 8");
        edge("promise 27, delete: just above the last word", "delete(1, 4, 1)" + INDEX, "delete(2, 1, 1)" + INDEX);
        edge("promise 27, delete: less than one word", "delete(1, 0, 0)" + INDEX, "delete(1, 3, 0)" + INDEX,
                "delete(1, 0, -1)" + INDEX, "delete(1, 4, 0)" + INDEX);
        edge("promise 27, delete: all words up to the last one", "delete(1, 1, 3) = 1", "paragraph(1, 2) = 2",
                "letter(1, 1) = 98");
        edge("promise 27, delete: one word more than there are behind it", "delete(1, 1, 4)" + INDEX,
                "delete(1, 3, 2)" + INDEX, "delete(1, 0, 5)" + INDEX);
        edge("promise 27, delete: all words but the last one", "delete(1, 0, 3) = 1", "paragraph(1, 2) = 2",
                "letter(1, 0) = 103");
        edge("promise 27, delete: all words", "delete(1, 0, 4)" + STATE, "delete(0, 0, 2)" + STATE,
                "paragraph(1, 1) = 4");
        edge("promise 27, delete: the only word", "delete(2, 0, 1)" + STATE, "paragraph(2, 1) = 1");
        edge("promise 27, delete: the only word and one more", "delete(2, 0, 2)" + INDEX);
        edge("promise 27, delete: just below the least paragraph", "delete(-1, 0, 1)" + INDEX);
        edge("promise 27, delete: just above the greatest paragraph", "delete(3, 0, 1)" + INDEX);
        edge("promise 27, delete: far out", "delete(" + Edges.LEAST_INT + ", 0, 1)" + INDEX,
                "delete(" + Edges.GREATEST_INT + ", 0, 1)" + INDEX, "delete(1, " + Edges.LEAST_INT + ", 1)" + INDEX,
                "delete(1, " + Edges.GREATEST_INT + ", 1)" + INDEX, "delete(1, 0, " + Edges.LEAST_INT + ")" + INDEX,
                "delete(1, 0, " + Edges.GREATEST_INT + ")" + INDEX, "delete(1, 3, " + Edges.GREATEST_INT + ")" + INDEX,
                "delete(1, " + Edges.GREATEST_INT + ", " + Edges.GREATEST_INT + ")" + INDEX);
        EDGES.richEdge("promise 27, delete: refused in a full state", "delete(3, 0, 1)" + STATE,
                "delete(3, 0, 2)" + INDEX, "delete(4, 0, 1)" + INDEX, "delete(3, 1, 1)" + INDEX,
                "delete(3, 0, 0)" + INDEX, "count(10) = 2", "clearInput() = 3");
    }

    private static void deleteWords() {
        edge("promise 27, delete: words that are followed by another go with the blanks behind them",
                "delete(1, 1, 2) = 2", "paragraph(1, 2) = 5", "letter(1, 1) = 98", "letter(1, 2) = 32",
                "letter(1, 3) = 103");
        edge("promise 27, delete: the last words go with the blanks before them", "delete(1, 2, 2) = 2",
                "paragraph(1, 2) = 5", "letter(1, 4) = 100", "letter(1, 5)" + INDEX, "letter(2, 0) = 117");
        edge("promise 27, delete: a word with a reference", "type n^5", "insert(0, 1) = 3", "page(0, 5) = 1",
                "delete(0, 1, 1) = 2", "page(0, 5) = 0", "paragraph(0, 2) = 4");
        EDGES.edge("promise 27, delete: twenty-three of twenty-four words", "type " + TWELVE_WORDS + " " + TWELVE_WORDS,
                "load() = 1", "delete(0, 0, 24)" + STATE, "delete(0, 0, 25)" + INDEX, "delete(0, 1, 23) = 1",
                "paragraph(0, 2) = 1", "letter(0, 0) = 97", "undo() = 0", "delete(0, 0, 23) = 1", "letter(0, 0) = 108");
        edge("promise 27, delete: it is an edit, and the buffer stays", "type n", "delete(0, 0, 1) = 1",
                "count(10) = 1", "clearInput() = 1", "undo() = 0", "paragraph(0, 1) = 2");
    }

    /** The characters from 3 to 5 go: a word of two signs and the blank behind it. */
    private static void deleteMovesAnnotations() {
        String[] delete = {"delete(1, 1, 1) = 3"};
        String name = "promise 27, delete: an annotation that ";
        annotationMoves(name + "ends just before what goes", 0, 3, delete, 0, 3);
        annotationMoves(name + "ends behind the first character that goes", 0, 4, delete, 0, 3);
        annotationMoves(name + "ends behind the last character that goes", 0, 6, delete, 0, 3);
        annotationMoves(name + "ends one character behind that", 0, 7, delete, 0, 4);
        annotationMoves(name + "has one character more behind what goes", 3, 7, delete, 3, 4);
        annotationMoves(name + "begins with the last character that goes", 5, 7, delete, 3, 4);
        annotationMoves(name + "begins just behind what goes", 6, 8, delete, 3, 5);
        annotationMoves(name + "is just what goes", 3, 6, delete, 3, 3);
        annotationMoves(name + "is the first character that goes", 3, 4, delete, 3, 3);
        annotationMoves(name + "is the last character that goes", 5, 6, delete, 3, 3);
        annotationMoves(name + "has one character more before what goes", 2, 6, delete, 2, 3);
        annotationMoves(name + "is the whole text", 0, 11, delete, 0, 8);
        annotationMoves(name + "is the first word, which goes", 0, 2, new String[] {"delete(1, 0, 1) = 3"}, 0, 0);
        edge("promise 27, delete: annotations of other paragraphs", "annotate(0, 0, 4, 1) = 0",
                "annotate(2, 0, 3, 2) = 1", "delete(1, 0, 1) = 3", "delete(1, 2, 1) = 2", "annotation(0, 0) = 0",
                "annotation(0, 1) = 0", "annotation(0, 2) = 4", "annotation(1, 0) = 2", "annotation(1, 1) = 0",
                "annotation(1, 2) = 3", "count(8) = 0");
    }

    /** The characters from 5 to 10 go: the last two words and the blanks before them. */
    private static void deleteLastMovesAnnotations() {
        String[] delete = {"delete(1, 2, 2) = 2"};
        String name = "promise 27, delete of the last words: an annotation that ";
        annotationMoves(name + "ends just before what goes", 3, 5, delete, 3, 5);
        annotationMoves(name + "ends behind the first character that goes", 3, 6, delete, 3, 5);
        annotationMoves(name + "ends with the text", 4, 11, delete, 4, 5);
        annotationMoves(name + "is the blank before them", 5, 6, delete, 5, 5);
        annotationMoves(name + "begins with the blank before them", 5, 11, delete, 5, 5);
        annotationMoves(name + "begins with them", 6, 11, delete, 5, 5);
        annotationMoves(name + "is the last character", 10, 11, delete, 5, 5);
        annotationMoves(name + "is the whole text", 0, 11, delete, 0, 5);
    }

    private static void deleteMovesPositions() {
        String[] delete = {"delete(1, 1, 1) = 3"};
        positionMoves("promise 27, delete: just before what goes", 2, delete, 1002);
        positionMoves("promise 27, delete: the first character that goes", 3, delete, 1003);
        positionMoves("promise 27, delete: a character within what goes", 4, delete, 1003);
        positionMoves("promise 27, delete: the last character that goes", 5, delete, 1003);
        positionMoves("promise 27, delete: just behind what goes", 6, delete, 1003);
        positionMoves("promise 27, delete: one character behind that", 7, delete, 1004);
        positionMoves("promise 27, delete: the last character of the text", 10, delete, 1007);
        String[] last = {"delete(1, 2, 2) = 2"};
        positionMoves("promise 27, delete of the last words: just before what goes", 4, last, 1004);
        positionMoves("promise 27, delete of the last words: the blank before them", 5, last, 1004);
        positionMoves("promise 27, delete of the last words: the first character of them", 6, last, 1004);
        positionMoves("promise 27, delete of the last words: the last character of the text", 10, last, 1004);
        String[] first = {"delete(1, 0, 3) = 1"};
        positionMoves("promise 27, delete of the first words: the first character", 0, first, 1000);
        positionMoves("promise 27, delete of the first words: the blank behind them", 8, first, 1000);
        positionMoves("promise 27, delete of the first words: the word behind them", 9, first, 1000);
        positionMoves("promise 27, delete of the first words: the last character", 10, first, 1001);
        positionMoves("promise 27, delete in the paragraph before", 0, new String[] {"delete(0, 1, 1) = 1"}, 1000);
        positionMoves("promise 27, delete in the paragraph before, the last character", 10,
                new String[] {"delete(0, 0, 1) = 1"}, 1010);
        EDGES.edge("promise 27, delete: the reader in the last of one-letter words", "type a b", "load() = 1",
                "go(0, 2) = 0", "delete(0, 1, 1) = 1", "count(6) = 0", "count(5) = 0", "count(11) = 0");
    }

    private static void deleteMovesLost() {
        String[] lostAtThree = {"annotate(1, 3, 5, 5) = 0", "delete(1, 1, 1) = 3", "annotation(0, 1) = 3"};
        edge("promise 27, delete: a lost annotation just where words go", Edges.joined(lostAtThree,
                "delete(1, 1, 1) = 2", "annotation(0, 1) = 3", "annotation(0, 2) = 3", "annotation(0, 4) = 1"));
        edge("promise 27, delete: a lost annotation behind words that go", Edges.joined(lostAtThree,
                "delete(1, 0, 1) = 2", "annotation(0, 1) = 0", "annotation(0, 2) = 0", "annotation(0, 4) = 1"));
        edge("promise 27, delete: a lost annotation before words that go", Edges.joined(lostAtThree,
                "delete(1, 2, 1) = 2", "annotation(0, 1) = 3", "annotation(0, 2) = 3", "annotation(0, 4) = 1"));
        edge("promise 27, delete: a lost annotation within the last words", Edges.joined(lostAtThree,
                "delete(1, 1, 2) = 1", "annotation(0, 0) = 1", "annotation(0, 1) = 2", "annotation(0, 2) = 2",
                "annotation(0, 4) = 1"));
        String[] lostAtEnd = {"annotate(1, 9, 11, 5) = 0", "delete(1, 3, 1) = 3", "annotation(0, 1) = 8"};
        edge("promise 27, delete: a lost annotation at the end of the text", Edges.joined(lostAtEnd,
                "delete(1, 2, 1) = 2", "annotation(0, 0) = 1", "annotation(0, 1) = 5", "annotation(0, 2) = 5"));
        edge("promise 27, delete: a lost annotation at the end, the first words go", Edges.joined(lostAtEnd,
                "delete(1, 0, 2) = 1", "annotation(0, 1) = 2", "annotation(0, 2) = 2", "annotation(0, 4) = 1",
                "annotation(0, 5) = -1"));
    }

    // ---- promise 28

    private static void splitArguments() {
        edge("promise 28, split: the least word", "split(1, 1) = 4", "paragraph(1, 1) = 1", "paragraph(2, 1) = 3");
        edge("promise 28, split: just below the least word", "split(1, 0)" + INDEX, "split(1, -1)" + INDEX);
        edge("promise 28, split: the greatest word", "split(1, 3) = 4", "paragraph(1, 1) = 3", "paragraph(2, 1) = 1");
        edge("promise 28, split: just above the greatest word", "split(1, 4)" + INDEX, "split(0, 2)" + INDEX);
        edge("promise 28, split: a paragraph of one word", "split(2, 0)" + INDEX, "split(2, 1)" + INDEX);
        edge("promise 28, split: just below the least paragraph", "split(-1, 1)" + INDEX);
        edge("promise 28, split: just above the greatest paragraph", "split(3, 1)" + INDEX);
        edge("promise 28, split: far out", "split(" + Edges.LEAST_INT + ", 1)" + INDEX,
                "split(" + Edges.GREATEST_INT + ", 1)" + INDEX, "split(1, " + Edges.LEAST_INT + ")" + INDEX,
                "split(1, " + Edges.GREATEST_INT + ")" + INDEX);
        EDGES.edge("promise 28, split: the tenth paragraph", "type a b|b|c|d|e|f|g|h|i", "load() = 9",
                "split(0, 1) = 10", "letter(1, 0) = 98", "letter(9, 0) = 105");
        EDGES.edge("promise 28, split: there are ten paragraphs", "type " + TEN_PARAGRAPHS + " k", "load() = 10",
                "split(9, 1)" + STATE, "count(0) = 10", "count(10) = 0");
        EDGES.edge("promise 28, split: a wrong word and ten paragraphs", "type " + TEN_PARAGRAPHS + " k", "load() = 10",
                "split(9, 0)" + INDEX, "split(9, 2)" + INDEX, "split(8, 1)" + INDEX, "split(10, 1)" + INDEX);
        EDGES.edge("promise 28, split: the ninth paragraph became free again", "type " + TEN_PARAGRAPHS + " k",
                "load() = 10", "join(0) = 2", "split(8, 1) = 10", "letter(9, 0) = 107");
        EDGES.richEdge("promise 28, split: refused in a full state", "split(3, 1)" + INDEX, "split(3, 0)" + INDEX,
                "split(4, 1)" + INDEX, "count(10) = 2", "clearInput() = 3");
    }

    private static void splitTexts() {
        edge("promise 28, split: the blank goes", "split(1, 2) = 4", "paragraph(1, 2) = 5", "letter(1, 4) = 100",
                "letter(1, 5)" + INDEX, "letter(2, 0) = 101", "paragraph(2, 2) = 5", "count(2) = 17");
        edge("promise 28, split: the paragraphs before and behind", "split(1, 2) = 4", "letter(0, 0) = 120",
                "paragraph(0, 1) = 2", "letter(3, 0) = 117", "paragraph(3, 2) = 3");
        edge("promise 28, split: a body paragraph", "split(1, 1) = 4", "paragraph(1, 0) = 0", "paragraph(2, 0) = 0");
        EDGES.edge("promise 28, split: a heading", "type #a b", "load() = 1", "split(0, 1) = 2", "paragraph(0, 0) = 1",
                "paragraph(1, 0) = 0");
        EDGES.edge("promise 28, split: a quote", "type >a b", "load() = 1", "split(0, 1) = 2", "paragraph(0, 0) = 2",
                "paragraph(1, 0) = 2");
        EDGES.edge("promise 28, split: the kinds of those behind stay", "type a b|#c|>d", "load() = 3",
                "split(0, 1) = 4", "paragraph(1, 0) = 0", "paragraph(2, 0) = 1", "paragraph(3, 0) = 2");
        edge("promise 28, split: it is an edit, and the buffer stays", "type n", "split(1, 1) = 4", "count(10) = 1",
                "clearInput() = 1", "undo() = 0", "count(0) = 3", "paragraph(1, 1) = 4");
    }

    /** The blank at 5 goes, and the word at 6 begins the new paragraph. */
    private static void splitMovesAnnotations() {
        String[] split = {"split(1, 2) = 4"};
        String name = "promise 28, split: an annotation that ";
        annotationMoves(name + "ends just before the blank", 3, 5, split, 3, 5);
        annotationMoves(name + "ends with the blank", 3, 6, split, 3, 5);
        annotationMoves(name + "ends behind the first character of the word", 3, 7, split, 3, 5);
        annotationMoves(name + "is the whole text", 0, 11, split, 0, 5);
        annotationMoves(name + "begins just before the blank", 4, 11, split, 4, 5);
        annotationMoves(name + "is the blank", 5, 6, split, 5, 5);
        annotationMoves(name + "begins with the blank", 5, 11, split, 5, 5);
        annotationMoves(name + "ends before that", 0, 4, split, 0, 4);
        edge(name + "begins with the word", "annotate(1, 6, 11, 5) = 0", "split(1, 2) = 4", "annotation(0, 0) = 2",
                "annotation(0, 1) = 0", "annotation(0, 2) = 5", "annotation(0, 4) = 0", "annotation(0, 3) = 5");
        edge(name + "begins one character behind that", "annotate(1, 7, 8, 5) = 0", "split(1, 2) = 4",
                "annotation(0, 0) = 2", "annotation(0, 1) = 1", "annotation(0, 2) = 2", "annotation(0, 4) = 0");
        edge(name + "is the last character", "annotate(1, 10, 11, 5) = 0", "split(1, 2) = 4", "annotation(0, 0) = 2",
                "annotation(0, 1) = 4", "annotation(0, 2) = 5");
        edge("promise 28, split: annotations of other paragraphs", "annotate(0, 0, 4, 1) = 0",
                "annotate(2, 0, 3, 2) = 1", "split(1, 2) = 4", "annotation(0, 0) = 0", "annotation(0, 1) = 0",
                "annotation(0, 2) = 4", "annotation(1, 0) = 3", "annotation(1, 1) = 0", "annotation(1, 2) = 3");
    }

    private static void splitMovesPositions() {
        String[] split = {"split(1, 2) = 4"};
        positionMoves("promise 28, split: just before the blank", 4, split, 1004);
        positionMoves("promise 28, split: the blank", 5, split, 1004);
        positionMoves("promise 28, split: the first character of the word", 6, split, 2000);
        positionMoves("promise 28, split: one character behind that", 7, split, 2001);
        positionMoves("promise 28, split: the last character", 10, split, 2004);
        positionMoves("promise 28, split: the first character", 0, split, 1000);
        positionMoves("promise 28, split of the paragraph before", 0, new String[] {"split(0, 1) = 4"}, 2000);
        edge("promise 28, split: positions of other paragraphs", "go(0, 3) = 0", "go(2, 2) = 0", "split(1, 2) = 4",
                "count(6) = 3002", "back() = 0", "count(6) = 3");
    }

    private static void splitMovesLost() {
        String[] lostAtThree = {"annotate(1, 3, 5, 5) = 0", "delete(1, 1, 1) = 3", "annotation(0, 1) = 3"};
        edge("promise 28, split: a lost annotation at the word", Edges.joined(lostAtThree, "split(1, 1) = 4",
                "annotation(0, 0) = 2", "annotation(0, 1) = 0", "annotation(0, 2) = 0", "annotation(0, 4) = 1"));
        edge("promise 28, split: a lost annotation before the blank", Edges.joined(lostAtThree, "split(1, 2) = 4",
                "annotation(0, 0) = 1", "annotation(0, 1) = 3", "annotation(0, 2) = 3", "annotation(0, 4) = 1"));
        String[] lostAtBlank = {"annotate(1, 5, 6, 5) = 0", "split(1, 2) = 4", "annotation(0, 1) = 5", "join(1) = 4",
            "letter(1, 5) = 32", "annotation(0, 1) = 5"};
        edge("promise 28, split: a lost annotation at the blank", Edges.joined(lostAtBlank, "split(1, 2) = 4",
                "annotation(0, 0) = 1", "annotation(0, 1) = 5", "annotation(0, 2) = 5", "annotation(0, 4) = 1"));
        edge("promise 28, split: a lost annotation behind the word", Edges.joined(lostAtBlank, "split(1, 1) = 4",
                "annotation(0, 0) = 2", "annotation(0, 1) = 2", "annotation(0, 2) = 2", "annotation(0, 4) = 1"));
        String[] lostAtEnd = {"annotate(1, 9, 11, 5) = 0", "delete(1, 3, 1) = 3", "annotation(0, 1) = 8"};
        edge("promise 28, split: a lost annotation at the end of the text", Edges.joined(lostAtEnd, "split(1, 2) = 4",
                "annotation(0, 0) = 2", "annotation(0, 1) = 2", "annotation(0, 2) = 2", "annotation(0, 4) = 1"));
        edge("promise 28, split: a lost annotation at the end of the paragraph before", "annotate(0, 3, 4, 5) = 0",
                "delete(0, 1, 1) = 1", "annotation(0, 1) = 2", "split(1, 1) = 4", "annotation(0, 0) = 0",
                "annotation(0, 1) = 2");
    }

    // ---- promise 29

    private static void joinArguments() {
        edge("promise 29, join: the least paragraph", "join(0) = 6", "count(0) = 2");
        edge("promise 29, join: just below the least paragraph", "join(-1)" + INDEX);
        edge("promise 29, join: the greatest paragraph", "join(1) = 5", "count(0) = 2");
        edge("promise 29, join: the last paragraph", "join(2)" + INDEX);
        edge("promise 29, join: just above the last paragraph", "join(3)" + INDEX);
        edge("promise 29, join: far out", "join(" + Edges.LEAST_INT + ")" + INDEX,
                "join(" + Edges.GREATEST_INT + ")" + INDEX);
        EDGES.edge("promise 29, join: the only paragraph", "join(0)" + INDEX, "join(-1)" + INDEX, "join(1)" + INDEX);
        EDGES.edge("promise 29, join: up to twenty-four words", "type " + TWELVE_WORDS + "|" + TWELVE_WORDS,
                "load() = 2",
                "join(0) = 24", "paragraph(0, 1) = 24", "count(0) = 1", "paragraph(0, 2) = 47");
        EDGES.edge("promise 29, join: one word more than twenty-four",
                "type " + TWELVE_WORDS + "|" + TWELVE_WORDS + " m",
                "load() = 2", "join(0)" + STATE, "count(0) = 2", "count(10) = 0");
        EDGES.edge("promise 29, join: twenty-four words and one", "type " + TWELVE_WORDS + " " + TWELVE_WORDS + "|m",
                "load() = 2", "join(0)" + STATE, "join(1)" + INDEX);
        EDGES.edge("promise 29, join: twenty-three words and one", "type " + TWELVE_WORDS + " b c d e f g h i j k l|m",
                "load() = 2", "join(0) = 24");
        EDGES.edge("promise 29, join: all of ten paragraphs", "type " + TEN_PARAGRAPHS, "load() = 10", "join(0) = 2",
                "join(0) = 3", "join(0) = 4", "join(0) = 5", "join(0) = 6", "join(0) = 7", "join(0) = 8",
                "join(0) = 9", "join(0) = 10", "join(0)" + INDEX, "paragraph(0, 2) = 19", "count(10) = 4");
        EDGES.richEdge("promise 29, join: refused in a full state", "join(3)" + INDEX, "join(4)" + INDEX,
                "join(-1)" + INDEX, "count(10) = 2", "clearInput() = 3");
    }

    private static void joinTexts() {
        edge("promise 29, join: a blank comes between", "join(0) = 6", "paragraph(0, 2) = 16", "letter(0, 3) = 122",
                "letter(0, 4) = 32", "letter(0, 5) = 97", "letter(0, 15) = 104", "letter(0, 16)" + INDEX,
                "count(2) = 19");
        edge("promise 29, join: the paragraph behind", "join(0) = 6", "letter(1, 0) = 117", "paragraph(1, 1) = 1",
                "paragraph(2, 1)" + INDEX);
        EDGES.edge("promise 29, join: a heading with a quote", "type #a|>b|c", "load() = 3", "join(0) = 2",
                "paragraph(0, 0) = 1", "paragraph(1, 0) = 0");
        EDGES.edge("promise 29, join: a body paragraph with a heading", "type a|#b|>c", "load() = 3", "join(0) = 2",
                "paragraph(0, 0) = 0", "paragraph(1, 0) = 2");
        EDGES.edge("promise 29, join: a quote with a body paragraph", "type >a|b", "load() = 2", "join(0) = 2",
                "paragraph(0, 0) = 2");
        edge("promise 29, join: it is an edit, and the buffer stays", "type n", "join(1) = 5", "count(10) = 1",
                "clearInput() = 1", "undo() = 0", "count(0) = 3", "paragraph(1, 1) = 4");
    }

    private static void joinMoves() {
        edge("promise 29, join: annotations of the first one", "annotate(0, 0, 4, 5) = 0", "annotate(0, 3, 4, 6) = 1",
                "join(0) = 6", "annotation(0, 0) = 0", "annotation(0, 1) = 0", "annotation(0, 2) = 4",
                "annotation(1, 1) = 3", "annotation(1, 2) = 4");
        edge("promise 29, join: annotations of the next one", "annotate(1, 0, 1, 5) = 0", "annotate(1, 10, 11, 6) = 1",
                "join(0) = 6", "annotation(0, 0) = 0", "annotation(0, 1) = 5", "annotation(0, 2) = 6",
                "annotation(1, 1) = 15", "annotation(1, 2) = 16", "annotation(1, 3) = 6");
        edge("promise 29, join: annotations of the one behind", "annotate(2, 0, 3, 5) = 0", "join(0) = 6",
                "annotation(0, 0) = 1", "annotation(0, 1) = 0", "annotation(0, 2) = 3");
        edge("promise 29, join: a lost annotation at the end of the first one", "annotate(0, 3, 4, 5) = 0",
                "delete(0, 1, 1) = 1", "annotation(0, 1) = 2", "join(0) = 5", "annotation(0, 0) = 0",
                "annotation(0, 1) = 2", "annotation(0, 2) = 2", "annotation(0, 4) = 1");
        edge("promise 29, join: a lost annotation of the next one", "annotate(1, 0, 2, 5) = 0", "delete(1, 0, 1) = 3",
                "annotation(0, 1) = 0", "join(0) = 5", "annotation(0, 0) = 0", "annotation(0, 1) = 5",
                "annotation(0, 2) = 5", "annotation(0, 4) = 1");
        edge("promise 29, join: what a split took stays lost", "annotate(1, 5, 7, 5) = 0", "split(1, 2) = 4",
                "join(1) = 4", "annotation(0, 1) = 5", "annotation(0, 2) = 5", "annotation(0, 4) = 1");
        positionMoves("promise 29, join with the one before: the first character", 0, new String[] {"join(0) = 6"}, 5);
        positionMoves("promise 29, join with the one before: the last character", 10, new String[] {"join(0) = 6"}, 15);
        positionMoves("promise 29, join with the one behind: the last character", 10, new String[] {"join(1) = 5"},
                1010);
        edge("promise 29, join: positions of other paragraphs", "go(0, 3) = 0", "go(2, 2) = 0", "join(0) = 6",
                "count(6) = 1002", "back() = 0", "count(6) = 3");
    }

    // ---- promise 30

    private static void undoCounts() {
        EDGES.edge("promise 30, undo: no edit can be undone", "undo()" + STATE);
        edge("promise 30, undo: the only edit", "split(1, 1) = 4", "undo() = 0", "undo()" + STATE, "count(10) = 0");
        String[] four = {"type a b c d e f g", "load() = 1", "delete(0, 0, 1) = 6", "delete(0, 0, 1) = 5",
            "delete(0, 0, 1) = 4", "delete(0, 0, 1) = 3"};
        EDGES.edge("promise 30, undo: the fourth edit is kept with the first one", Edges.joined(four, "count(10) = 4",
                "undo() = 3", "undo() = 2", "undo() = 1", "undo() = 0", "letter(0, 0) = 97", "paragraph(0, 1) = 7",
                "undo()" + STATE));
        EDGES.edge("promise 30, undo: the fifth edit lets the oldest one go", Edges.joined(four, "delete(0, 0, 1) = 2",
                "count(10) = 4", "undo() = 3", "letter(0, 0) = 101", "undo() = 2", "letter(0, 0) = 100", "undo() = 1",
                "letter(0, 0) = 99", "undo() = 0", "letter(0, 0) = 98", "undo()" + STATE, "paragraph(0, 1) = 6"));
        EDGES.edge("promise 30, undo: behind the fifth edit each one has its own reader and annotations",
                "type a b c d e f g", "load() = 1", "go(0, 12) = 0", "annotate(0, 12, 13, 0) = 0",
                "delete(0, 0, 1) = 6", "annotate(0, 10, 11, 1) = 1", "go(0, 9) = 0", "delete(0, 0, 1) = 5",
                "annotate(0, 8, 9, 2) = 2", "go(0, 6) = 0", "delete(0, 0, 1) = 4", "annotate(0, 6, 7, 3) = 3",
                "go(0, 3) = 0", "delete(0, 0, 1) = 3", "annotate(0, 4, 5, 4) = 4", "go(0, 4) = 0",
                "delete(0, 0, 1) = 2", "undo() = 3", "count(6) = 4", "count(7) = 5", "count(9) = 5", "undo() = 2",
                "count(6) = 3", "count(7) = 4", "annotation(3, 3) = 3", "undo() = 1", "count(6) = 6", "count(7) = 3",
                "annotation(0, 1) = 8", "annotation(2, 3) = 2", "count(9) = 3", "undo() = 0", "count(6) = 9",
                "count(7) = 2", "annotation(1, 1) = 10", "count(9) = 2", "back() = 0", "count(6) = 10");
        EDGES.edge("promise 30, undo: the sixth edit lets the next one go", Edges.joined(four, "delete(0, 0, 1) = 2",
                "delete(0, 0, 1) = 1", "count(10) = 4", "undo() = 3", "undo() = 2", "undo() = 1", "undo() = 0",
                "letter(0, 0) = 99", "undo()" + STATE));
        EDGES.edge("promise 30, undo: an edit behind it takes the place of the one gone", Edges.joined(four,
                "undo() = 3", "delete(0, 3, 1) = 3", "count(10) = 4", "undo() = 3", "paragraph(0, 1) = 4",
                "letter(0, 0) = 100", "undo() = 2", "undo() = 1", "undo() = 0", "letter(0, 0) = 97"));
        EDGES.edge("promise 30, undo: it is no edit itself", Edges.joined(four, "undo() = 3", "undo() = 2",
                "letter(0, 0) = 99", "undo() = 1", "letter(0, 0) = 98"));
        edge("promise 30, undo: a refused call is no edit", "split(1, 1) = 4", "split(3, 1)" + INDEX, "join(3)" + INDEX,
                "delete(3, 0, 1)" + STATE, "insert(0, 0)" + STATE, "count(10) = 1", "undo() = 0", "count(0) = 3");
        EDGES.richEdge("promise 30, undo: refused in a full state", "undo() = 1", "undo() = 0", "undo()" + STATE,
                "count(0) = 3", "count(7) = 3", "clearInput() = 3");
    }

    private static void undoRestores() {
        edge("promise 30, undo: the position of the reader, although it went on", "go(1, 6) = 0", "split(1, 2) = 4",
                "go(0, 0) = 0", "undo() = 0", "count(6) = 1006");
        edge("promise 30, undo: the kept jumps", "go(1, 6) = 0", "go(1, 7) = 0", "split(1, 2) = 4", "back() = 0",
                "back() = 0", "count(9) = 0", "undo() = 0", "count(9) = 2", "back() = 0", "count(6) = 1006",
                "back() = 0", "count(6) = 0");
        edge("promise 30, undo: jumps behind the edit go", "split(1, 2) = 4", "go(0, 1) = 0", "go(0, 2) = 0",
                "count(9) = 2", "undo() = 0", "count(9) = 0", "back()" + STATE, "count(6) = 0");
        edge("promise 30, undo: an annotation that was lost", "annotate(1, 3, 5, 5) = 0", "delete(1, 1, 1) = 3",
                "annotation(0, 4) = 1", "undo() = 0", "annotation(0, 4) = 0", "annotation(0, 1) = 3",
                "annotation(0, 2) = 5");
        edge("promise 30, undo: an annotation that was removed behind the edit", "annotate(1, 3, 5, 5) = 0",
                "annotate(1, 0, 1, 6) = 1", "split(1, 3) = 4", "removeAnnotation(0) = 1", "undo() = 0", "count(7) = 2",
                "annotation(0, 3) = 5", "annotation(1, 3) = 6");
        edge("promise 30, undo: an annotation that was made behind the edit", "split(1, 3) = 4",
                "annotate(3, 0, 3, 5) = 0", "undo() = 0", "count(7) = 0", "annotation(0, 0)" + INDEX);
        EDGES.edge("promise 30, undo: the kinds", "type >a|#b", "load() = 2", "join(0) = 2", "undo() = 0",
                "paragraph(0, 0) = 2", "paragraph(1, 0) = 1");
        edge("promise 30, undo: each edit has what was before it alone", "go(1, 3) = 0", "split(1, 1) = 4",
                "count(6) = 2000", "annotate(2, 0, 2, 7) = 0", "type n", "insert(2, 0) = 4", "count(6) = 2002",
                "annotation(0, 1) = 2", "undo() = 1", "count(6) = 2000", "annotation(0, 1) = 0", "undo() = 0",
                "count(6) = 1003", "count(7) = 0");
    }

    private static void undoLeaves() {
        edge("promise 30, undo: the size and the style stay", "split(1, 1) = 4", "setSize(40, 10) = 1",
                "setStyle(0, 4) = 2", "undo() = 0", "shown(0, 9, 39) = 32", "setStyle(0, 4) = 4");
        edge("promise 30, undo: the texts of notes stay", "type n m", "setNote(0) = 0", "split(1, 1) = 4",
                "removeNote(0) = 2", "type o", "setNote(9) = 0", "undo() = 0", "removeNote(0)" + STATE,
                "removeNote(9) = 1");
        edge("promise 30, undo: the buffer stays", "type n", "insert(1, 0) = 5", "type m o", "undo() = 0",
                "clearInput() = 3");
        edge("promise 30, undo: the words of an undone insert are not in the buffer again", "type n",
                "insert(1, 0) = 5", "undo() = 0", "clearInput() = 0");
        edge("promise 30, undo: no edit of the book before", "split(1, 1) = 4", "type q", "load() = 1",
                "undo()" + STATE);
    }
}
