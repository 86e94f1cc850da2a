/** Boundary cases of promises 1 to 7: a new object and the input. */
public final class InputEdgesTest {
    private static final Edges EDGES = new Edges();
    private static final String INDEX = Edges.INDEX;
    private static final String ARGUMENT = Edges.ARGUMENT;
    private static final String STATE = Edges.STATE;
    private static final String TWELVE_WORDS = Edges.TWELVE_WORDS;
    private static final String TEN_PARAGRAPHS = Edges.TEN_PARAGRAPHS;
    private static final String TWELVE_SIGNS = "abcdefghijkl";
    /** A book, but no word list, that fills the buffer: its last word has twelve signs and a reference. */
    private static final String HUNDRED = "#" + "abcdefghijkl ".repeat(6) + "abcdef abcdefghijkl^9";
    /** A word list that fills the buffer. */
    private static final String HUNDRED_LISTED = "abcdefghijkl ".repeat(6) + "abcdefg abcdefghijkl^9";
    private static final String SIGNS = "abcdefghijklmnopqrstuvwxyzABCDEFGHIJKLMNOPQRSTUVWXYZ0123456789.,'";
    private static final String DIGITS = "0123456789";

    public static void main(String[] args) {
        newBook();
        newPage();
        newRest();
        twoObjects();
        appendCodes();
        appendToFullBuffer();
        clearInput();
        errorsOfEmptyAndFullBuffers();
        errorsByPlace();
        errorsOfWords();
        errorsOfLists();
        errorsOfBooks();
        errorsChangeNothing();
        loadLeastAndGreatest();
        loadEnds();
        loadRefuses();
        loadForgets();
        loadKeeps();
        setNoteNumbers();
        setNoteTexts();
        setNoteRefuses();
        removeNote();
        EDGES.end();
    }

    // ---- promise 1

    private static void newBook() {
        EDGES.edge("promise 1, new object: there is one paragraph", "count(0) = 1", "paragraph(1, 0)" + INDEX);
        EDGES.edge("promise 1, new object: it is a body paragraph", "paragraph(0, 0) = 0");
        EDGES.edge("promise 1, new object: it has one word", "count(1) = 1", "paragraph(0, 1) = 1");
        EDGES.edge("promise 1, new object: the word is a", "count(2) = 1", "paragraph(0, 2) = 1",
                "letter(0, 0) = 97", "letter(0, 1)" + INDEX);
        EDGES.edge("promise 1, new object: one line and one page", "count(3) = 1", "count(4) = 1");
    }

    private static void newPage() {
        EDGES.edge("promise 1, new object: the page has 30 columns", "shown(0, 0, 29) = 32",
                "shown(0, 0, 30)" + ARGUMENT);
        EDGES.edge("promise 1, new object: the page has 8 rows", "shown(0, 7, 0) = 32", "shown(0, 8, 0)" + ARGUMENT);
        EDGES.edge("promise 1, new object: the indent is 2", "line(0, 3) = 3", "setStyle(0, 2) = 2");
        EDGES.edge("promise 1, new object: the quote indent is 4", "setStyle(1, 4) = 4", "type >q", "load() = 1",
                "line(0, 3) = 5");
        EDGES.edge("promise 1, new object: the gap is 0", "setStyle(2, 0) = 0", "type a|b", "load() = 2",
                "line(1, 5) = 1");
        EDGES.edge("promise 1, new object: keeping is off", "setStyle(3, 0) = 0", "type a|#b|c", "load() = 3",
                "setSize(18, 3) = 2", "page(0, 2) = 2");
        EDGES.edge("promise 1, new object: footnotes are off", "setStyle(4, 0) = 0", "type a^1", "load() = 1",
                "type n", "setNote(1) = 0", "page(0, 4) = 0");
    }

    private static void newRest() {
        String[] notes = new String[10];
        for (int note = 0; note < 10; note++) {
            notes[note] = "removeNote(" + note + ")" + STATE;
        }
        EDGES.edge("promise 1, new object: no note has a text", notes);
        EDGES.edge("promise 1, new object: there are no annotations", "count(7) = 0", "count(8) = 0",
                "annotation(0, 0)" + INDEX, "removeAnnotation(0)" + INDEX, "page(0, 6) = 0");
        EDGES.edge("promise 1, new object: the buffer is empty", "firstError(true) = 0", "firstError(false) = 0",
                "clearInput() = 0");
        EDGES.edge("promise 1, new object: the reader is at the position 0", "count(5) = 0", "count(6) = 0",
                "count(11) = 0");
        EDGES.edge("promise 1, new object: no jump is kept", "count(9) = 0", "back()" + STATE);
        EDGES.edge("promise 1, new object: no edit can be undone", "count(10) = 0", "undo()" + STATE);
        EDGES.due("promise 1, the constants: NONE", BookPager.NONE, -1);
    }

    private static void twoObjects() {
        Run untouched = new Run();
        String before = untouched.ask("digest()");
        Run changed = new Run();
        changed.type("#b c");
        for (String call : new String[] {"load()", "setSize(18, 2)", "setStyle(0, 4)", "setStyle(4, 1)",
            "annotate(0, 0, 1, 1)", "go(0, 1)", "split(0, 1)"}) {
            changed.ask(call);
        }
        changed.type("n");
        changed.ask("setNote(0)");
        changed.type("left");
        EDGES.due("promise 1, new object: it shares nothing with another one", untouched.ask("digest()"), before);
        EDGES.due("promise 1, new object: it is new also behind another one", new Run().ask("digest()"), before);
        EDGES.due("promise 1, new object: no note of another one", untouched.ask("removeNote(0)"),
                "throws IllegalStateException");
    }

    // ---- promise 2

    private static void appendCodes() {
        EDGES.edge("promise 2, append: the least code", "append(32) = 1", "digest() = " + digestOfBuffer(32));
        EDGES.edge("promise 2, append: just below the least code", "append(31)" + ARGUMENT, "clearInput() = 0");
        EDGES.edge("promise 2, append: the greatest code", "append(126) = 1", "digest() = " + digestOfBuffer(126));
        EDGES.edge("promise 2, append: just above the greatest code", "append(127)" + ARGUMENT, "clearInput() = 0");
        EDGES.edge("promise 2, append: codes far out", "append(-1)" + ARGUMENT, "append(0)" + ARGUMENT,
                "append(" + Edges.LEAST_INT + ")" + ARGUMENT, "append(" + Edges.GREATEST_INT + ")" + ARGUMENT);
        EDGES.edge("promise 2, append: codes that are good in their last bits alone", "append(353)" + ARGUMENT,
                "append(65633)" + ARGUMENT, "append(-65439)" + ARGUMENT);
        String[] all = new String[95];
        for (int code = 32; code <= 126; code++) {
            all[code - 32] = "append(" + code + ") = " + (code - 31);
        }
        EDGES.edge("promise 2, append: each code from the least to the greatest", all);
        EDGES.edge("promise 2, append: a character that no text may have there", "type a|| ", "append(94) = 5");
        EDGES.richEdge("promise 2, append: refused in a full state", "append(31)" + ARGUMENT,
                "append(127)" + ARGUMENT);
    }

    /** The digest of a new object with one character in its buffer. */
    private static long digestOfBuffer(int code) {
        int[] values = {1, 1, 1, 1, 1, 0, 0, 0, 0, 0, 0, 0, 30, 8, 2, 4, 0, 0, 0, 0, 1, 1, 1, 0, 'a', 0, 0, 1, 3, 0, 0,
            0, -1, 1, 1, 0, 0, 0, 0, 0, 0, 0, 0, 0, 0, 0, 0, 0, 1, code};
        long hash = 1931;
        for (int value : values) {
            hash = 31 * hash + value;
        }
        return hash;
    }

    private static void appendToFullBuffer() {
        EDGES.edge("promise 2, append: the hundredth character is taken", "type " + "a".repeat(98),
                "append(97) = 99", "append(97) = 100");
        EDGES.edge("promise 2, append: a full buffer", "type " + "a".repeat(100), "append(97)" + STATE,
                "append(32)" + STATE, "append(126)" + STATE, "clearInput() = 100");
        EDGES.edge("promise 2, append: a full buffer and a wrong code", "type " + "a".repeat(100),
                "append(31)" + ARGUMENT, "append(127)" + ARGUMENT);
        EDGES.edge("promise 2, append: a full buffer that was cleared", "type " + "a".repeat(100),
                "clearInput() = 100", "append(97) = 1");
        EDGES.edge("promise 2, append: a full buffer that was loaded", "type " + HUNDRED, "append(97)" + STATE,
                "load() = 1", "append(97) = 1");
    }

    // ---- promise 3

    private static void clearInput() {
        EDGES.edge("promise 3, clearInput: an empty buffer", "still clearInput() = 0");
        EDGES.edge("promise 3, clearInput: one character", "type a", "clearInput() = 1", "still clearInput() = 0");
        EDGES.edge("promise 3, clearInput: a full buffer", "type " + "a ".repeat(50), "clearInput() = 100",
                "still clearInput() = 0");
        EDGES.edge("promise 3, clearInput: a buffer with a syntax error", "type |", "clearInput() = 1",
                "firstError(true) = 0");
        EDGES.edge("promise 3, clearInput: what was cleared does not come back", "type ab cd", "clearInput() = 5",
                "type e", "load() = 1", "count(2) = 1", "letter(0, 0) = 101");
        EDGES.richEdge("promise 3, clearInput: the buffer alone", "clearInput() = 3", "count(0) = 4", "count(6) = 3001",
                "count(7) = 3", "count(8) = 1", "count(9) = 2", "count(10) = 2", "removeNote(1) = 2",
                "removeNote(9) = 1");
    }

    // ---- promise 4

    private static void error(String what, String text, int ofList, int ofBook) {
        EDGES.edge("promise 4, firstError: " + what, "type " + text, "still firstError(false) = " + ofList,
                "still firstError(true) = " + ofBook);
    }

    private static void errorsOfEmptyAndFullBuffers() {
        error("an empty buffer", "", 0, 0);
        error("one sign", "a", 1, 1);
        error("a full buffer without an error", HUNDRED_LISTED, 100, 100);
        error("a full buffer that is a book alone", HUNDRED, 0, 100);
        error("an error at the first place", "-", 0, 0);
        error("an error at the last place of a full buffer", HUNDRED.substring(0, 99) + "-", 0, 99);
        error("the first of several errors", "a--b||", 1, 1);
    }

    /** Each code behind a text: those that are allowed there end without an error, the others are one. */
    private static void behind(String what, String text, String listAllows, String bookAllows) {
        for (int code = 32; code <= 126; code++) {
            boolean inList = listAllows.indexOf(code) >= 0;
            boolean inBook = bookAllows.indexOf(code) >= 0;
            String name = "promise 4, firstError, each character " + what + ": code " + code;
            EDGES.edge(name, "type " + text + (char) code, "firstError(true) = " + (text.length() + (inBook ? 1 : 0)));
            boolean isList = text.indexOf('|') < 0 && text.indexOf('#') < 0 && text.indexOf('>') < 0;
            if (isList) {
                EDGES.edge(name + " of a list", "type " + text + (char) code,
                        "firstError(false) = " + (text.length() + (inList ? 1 : 0)));
            }
        }
    }

    private static void errorsByPlace() {
        behind("at the beginning", "", SIGNS, SIGNS + "#>");
        behind("behind a sign", "a", SIGNS + " ^", SIGNS + " ^|");
        behind("behind twelve signs", TWELVE_SIGNS, " ^", " ^|");
        behind("behind a blank", "a ", SIGNS, SIGNS);
        behind("behind a caret", "a^", DIGITS, DIGITS);
        behind("behind a reference", "a^1", " ", " |");
        behind("behind a bar", "a|", "", SIGNS + "#>");
        behind("behind the mark of a heading", "#", "", SIGNS);
        behind("behind the mark of a quote", "a|>", "", SIGNS);
        behind("behind the twelfth word", TWELVE_WORDS, SIGNS + "^", SIGNS + " ^|");
        behind("behind the twenty-fourth word", "#" + TWELVE_WORDS + " " + TWELVE_WORDS, "", SIGNS + "^|");
        behind("behind the tenth paragraph", TEN_PARAGRAPHS, "", SIGNS + " ^");
    }

    private static void errorsOfWords() {
        error("the twelfth sign", TWELVE_SIGNS, 12, 12);
        error("the thirteenth sign", TWELVE_SIGNS + "m", 12, 12);
        error("the thirteenth sign of another kind", "aB3.,'aB3.,''", 12, 12);
        error("the thirteenth sign of a later word", TWELVE_SIGNS + " " + TWELVE_SIGNS + "m", 25, 25);
        error("the signs of each word are counted anew", TWELVE_SIGNS + "^1 " + TWELVE_SIGNS + "^1", 29, 29);
        error("a reference behind the twelfth sign", TWELVE_SIGNS + "^0", 14, 14);
        error("a caret behind the thirteenth sign", TWELVE_SIGNS + "m^0", 12, 12);
        error("the least and the greatest note", "a^0 a^9", 7, 7);
        error("a second reference", "a^1^2", 3, 3);
        error("a reference with two digits", "a^12", 3, 3);
        error("a reference without a sign", "a ^1", 2, 2);
        error("a caret at the end", "a^", 2, 2);
        error("two carets", "a^^1", 2, 2);
    }

    private static void errorsOfLists() {
        error("a list of twelve words", TWELVE_WORDS, 23, 23);
        error("a blank behind the eleventh word", TWELVE_WORDS.substring(0, 22), 22, 22);
        error("a blank behind the twelfth word", TWELVE_WORDS + " ", 23, 24);
        error("a blank behind the twelfth word with a reference", TWELVE_WORDS + "^1 ", 25, 26);
        error("a thirteenth word", TWELVE_WORDS + " m", 23, 25);
        error("a blank at the end", "a ", 2, 2);
        error("a blank at the beginning", " a", 0, 0);
        error("two blanks", "a  b", 2, 2);
        error("a heading is no list", "#a", 0, 2);
        error("a quote is no list", ">a", 0, 2);
        error("two paragraphs are no list", "a|b", 1, 3);
    }

    private static void errorsOfBooks() {
        String twentyFour = TWELVE_WORDS + " " + TWELVE_WORDS;
        error("a paragraph of twenty-four words", twentyFour, 23, 47);
        error("a blank behind the twenty-third word", twentyFour.substring(0, 46), 23, 46);
        error("a blank behind the twenty-fourth word", twentyFour + " ", 23, 47);
        error("a blank behind the twenty-fourth word of a quote", ">" + twentyFour + " ", 0, 48);
        error("the words of each paragraph are counted anew", twentyFour + "|#" + twentyFour, 23, 96);
        error("a blank behind the twenty-fourth word of the second paragraph", twentyFour + "|" + twentyFour + " ",
                23, 95);
        error("ten paragraphs", TEN_PARAGRAPHS, 1, 19);
        error("a bar behind the ninth paragraph", TEN_PARAGRAPHS.substring(0, 18), 1, 18);
        error("a bar behind the tenth paragraph", TEN_PARAGRAPHS + "|", 1, 19);
        error("a bar behind the tenth paragraph with more words", TEN_PARAGRAPHS + " k^1|", 1, 23);
        error("an empty paragraph", "a||b", 1, 2);
        error("an empty first paragraph", "|a", 0, 0);
        error("a bar behind a blank", "a |b", 2, 2);
        error("a blank behind a bar", "a| b", 1, 2);
        error("a bar behind a caret", "a^|b", 2, 2);
        error("a heading without words", "#|a", 0, 1);
        error("a blank behind the mark of a heading", "# a", 0, 1);
        error("two marks", "#>a", 0, 1);
        error("a mark within a word", "a#", 1, 1);
        error("a mark before a second word", "a >b", 2, 2);
        error("a mark at the end", "a|#", 1, 3);
        error("a bar at the end", "a|", 1, 2);
    }

    private static void errorsChangeNothing() {
        EDGES.richEdge("promise 4, firstError: nothing is changed by it", "still firstError(true) = 3",
                "still firstError(false) = 3", "type |-", "still firstError(true) = 4", "still firstError(false) = 3",
                "clearInput() = 5");
        EDGES.edge("promise 4, firstError: it is told anew for each buffer", "type a-", "firstError(false) = 1",
                "clearInput() = 2", "type ab", "firstError(false) = 2", "append(45) = 3", "firstError(false) = 2");
    }

    // ---- promise 5

    private static void loadLeastAndGreatest() {
        EDGES.edge("promise 5, load: the least book", "type b", "load() = 1", "count(0) = 1", "count(1) = 1",
                "count(2) = 1", "letter(0, 0) = 98");
        EDGES.edge("promise 5, load: ten paragraphs", "type " + TEN_PARAGRAPHS, "load() = 10", "count(0) = 10",
                "letter(0, 0) = 97", "letter(9, 0) = 106", "paragraph(10, 0)" + INDEX);
        EDGES.edge("promise 5, load: twenty-four words", "type #" + TWELVE_WORDS + " " + TWELVE_WORDS, "load() = 1",
                "count(1) = 24", "paragraph(0, 1) = 24", "paragraph(0, 2) = 47", "letter(0, 46) = 108");
        EDGES.edge("promise 5, load: a word of twelve signs and a reference", "type " + TWELVE_SIGNS + "^0",
                "load() = 1", "count(1) = 1", "count(2) = 14", "letter(0, 11) = 108", "letter(0, 12) = 94",
                "letter(0, 13) = 48");
        EDGES.edge("promise 5, load: a hundred characters", "type " + HUNDRED, "load() = 1", "count(2) = 99",
                "letter(0, 98) = 57", "paragraph(0, 1) = 8");
        EDGES.edge("promise 5, load: the three kinds", "type a|#b|>c|d", "load() = 4", "paragraph(0, 0) = 0",
                "paragraph(1, 0) = 1", "paragraph(2, 0) = 2", "paragraph(3, 0) = 0", "count(2) = 4");
        EDGES.edge("promise 5, load: the mark is no part of the text", "type #b|>c d", "load() = 2",
                "paragraph(0, 2) = 1", "letter(0, 0) = 98", "paragraph(1, 2) = 3", "letter(1, 0) = 99",
                "letter(1, 1) = 32");
    }

    private static void loadEnds() {
        for (String end : new String[] {"a", "z", "A", "Z", "0", "9", ".", ",", "'", "^0", "^9"}) {
            EDGES.edge("promise 5, load: a book that ends with a" + end, "type b|a" + end, "load() = 2",
                    "letter(1, " + end.length() + ") = " + (int) end.charAt(end.length() - 1));
        }
        for (String end : new String[] {" ", "|", "^", "|#", "|>"}) {
            EDGES.edge("promise 5, load: a buffer that ends with a" + end, "type b|a" + end, "load()" + STATE,
                    "clearInput() = " + (3 + end.length()), "letter(0, 0) = 97");
        }
    }

    private static void loadRefuses() {
        EDGES.edge("promise 5, load: an empty buffer", "load()" + STATE, "letter(0, 0) = 97");
        EDGES.edge("promise 5, load: a mark alone", "type #", "load()" + STATE, "clearInput() = 1");
        EDGES.edge("promise 5, load: an error at the beginning", "type -a", "load()" + STATE, "clearInput() = 2");
        EDGES.edge("promise 5, load: an error at the end", "type ab|c-", "load()" + STATE, "clearInput() = 5");
        EDGES.edge("promise 5, load: an error in the middle and a good end", "type ab||c", "load()" + STATE,
                "clearInput() = 5");
        EDGES.edge("promise 5, load: eleven paragraphs", "type " + TEN_PARAGRAPHS + "|k", "load()" + STATE,
                "count(0) = 1", "clearInput() = 21");
        EDGES.edge("promise 5, load: twenty-five words", "type " + TWELVE_WORDS + " " + TWELVE_WORDS + " m",
                "load()" + STATE, "count(1) = 1", "clearInput() = 49");
        EDGES.edge("promise 5, load: thirteen signs", "type " + TWELVE_SIGNS + "m", "load()" + STATE,
                "count(2) = 1", "clearInput() = 13");
        EDGES.edge("promise 5, load: two references", "type a^1^2", "load()" + STATE, "clearInput() = 5");
        EDGES.richEdge("promise 5, load: refused in a full state", "type -", "load()" + STATE, "count(0) = 4",
                "count(7) = 3", "count(9) = 2", "count(10) = 2", "clearInput() = 4");
    }

    private static void loadForgets() {
        EDGES.richEdge("promise 5, load: the buffer is cleared", "load() = 1", "clearInput() = 0");
        EDGES.richEdge("promise 5, load: the reader is at the position 0", "load() = 1", "count(6) = 0",
                "count(5) = 0");
        EDGES.richEdge("promise 5, load: no jump is kept", "load() = 1", "count(9) = 0", "back()" + STATE);
        EDGES.richEdge("promise 5, load: there are no annotations", "load() = 1", "count(7) = 0", "count(8) = 0",
                "annotation(0, 0)" + INDEX, "annotate(0, 0, 1, 0) = 0");
        EDGES.richEdge("promise 5, load: no edit can be undone", "load() = 1", "count(10) = 0", "undo()" + STATE);
        EDGES.richEdge("promise 5, load: the same book once more is a new one", "clearInput() = 3",
                "type #Top|ab^1|ef|>gh", "load() = 4", "count(6) = 0", "count(7) = 0", "count(9) = 0",
                "undo()" + STATE);
        EDGES.edge("promise 5, load: a shorter book", "type a b|c d", "load() = 2", "type e", "load() = 1",
                "count(0) = 1", "count(1) = 1", "paragraph(1, 0)" + INDEX, "letter(0, 1)" + INDEX);
    }

    private static void loadKeeps() {
        EDGES.richEdge("promise 5, load: the texts of notes stay", "load() = 1", "removeNote(1) = 2",
                "removeNote(9) = 1");
        EDGES.richEdge("promise 5, load: the size stays", "load() = 1", "shown(0, 5, 19) = 32",
                "shown(0, 6, 0)" + ARGUMENT, "shown(0, 0, 20)" + ARGUMENT);
        EDGES.richEdge("promise 5, load: the style stays", "load() = 1", "setStyle(0, 0) = 1", "setStyle(1, 0) = 3",
                "setStyle(2, 0) = 1", "setStyle(3, 0) = 1", "setStyle(4, 0) = 1");
    }

    // ---- promise 6

    private static void setNoteNumbers() {
        EDGES.edge("promise 6, setNote: the least note", "type a b", "setNote(0) = 0", "removeNote(0) = 2");
        EDGES.edge("promise 6, setNote: just below the least note", "type a b", "setNote(-1)" + INDEX,
                "clearInput() = 3");
        EDGES.edge("promise 6, setNote: the greatest note", "type a b", "setNote(9) = 0", "removeNote(9) = 2");
        EDGES.edge("promise 6, setNote: just above the greatest note", "type a b", "setNote(10)" + INDEX,
                "clearInput() = 3");
        EDGES.edge("promise 6, setNote: notes far out", "type a", "setNote(" + Edges.LEAST_INT + ")" + INDEX,
                "setNote(" + Edges.GREATEST_INT + ")" + INDEX);
        EDGES.edge("promise 6, setNote: a wrong note and an empty buffer", "setNote(-1)" + INDEX,
                "setNote(10)" + INDEX);
        EDGES.edge("promise 6, setNote: one note alone", "type a", "setNote(4) = 0", "removeNote(3)" + STATE,
                "removeNote(5)" + STATE, "removeNote(4) = 1");
    }

    private static void setNoteTexts() {
        EDGES.edge("promise 6, setNote: one word", "type a", "setNote(1) = 0", "removeNote(1) = 1");
        EDGES.edge("promise 6, setNote: twelve words", "type " + TWELVE_WORDS, "setNote(1) = 0",
                "removeNote(1) = 12");
        EDGES.edge("promise 6, setNote: a hundred characters", "type " + HUNDRED_LISTED, "setNote(1) = 0",
                "removeNote(1) = 8");
        EDGES.edge("promise 6, setNote: there was no text before", "type a b c", "setNote(1) = 0");
        EDGES.edge("promise 6, setNote: there was one word before", "type a", "setNote(1) = 0", "type b c",
                "setNote(1) = 1", "removeNote(1) = 2");
        EDGES.edge("promise 6, setNote: there were twelve words before", "type " + TWELVE_WORDS, "setNote(1) = 0",
                "type b", "setNote(1) = 12", "removeNote(1) = 1");
        EDGES.edge("promise 6, setNote: the text before was removed", "type a b", "setNote(1) = 0",
                "removeNote(1) = 2", "type c", "setNote(1) = 0");
        EDGES.edge("promise 6, setNote: the buffer is cleared", "type a b", "setNote(1) = 0", "clearInput() = 0");
        EDGES.edge("promise 6, setNote: a text that ends with a reference", "type a b^0", "setNote(1) = 0",
                "removeNote(1) = 2");
    }

    private static void setNoteRefuses() {
        EDGES.edge("promise 6, setNote: an empty buffer", "setNote(0)" + STATE, "removeNote(0)" + STATE);
        EDGES.edge("promise 6, setNote: thirteen words", "type " + TWELVE_WORDS + " m", "setNote(0)" + STATE,
                "clearInput() = 25");
        EDGES.edge("promise 6, setNote: thirteen signs", "type " + TWELVE_SIGNS + "m", "setNote(0)" + STATE,
                "clearInput() = 13");
        for (String text : new String[] {"#a", ">a", "a|b", "a ", " a", "a^", "a-", "a  b"}) {
            EDGES.edge("promise 6, setNote: \"" + text + "\" is no word list", "type " + text, "setNote(0)" + STATE,
                    "clearInput() = " + text.length());
        }
        EDGES.richEdge("promise 6, setNote: refused where there is a text", "type |z", "setNote(1)" + STATE,
                "setNote(10)" + INDEX, "setNote(-1)" + INDEX, "removeNote(1) = 2", "clearInput() = 5");
    }

    // ---- promise 7

    private static void removeNote() {
        EDGES.edge("promise 7, removeNote: the least note", "type a b c", "setNote(0) = 0", "removeNote(0) = 3",
                "removeNote(0)" + STATE);
        EDGES.edge("promise 7, removeNote: the greatest note", "type a", "setNote(9) = 0", "removeNote(9) = 1",
                "removeNote(9)" + STATE);
        EDGES.edge("promise 7, removeNote: just below the least note", "type a", "setNote(0) = 0",
                "removeNote(-1)" + INDEX, "removeNote(0) = 1");
        EDGES.edge("promise 7, removeNote: just above the greatest note", "type a", "setNote(9) = 0",
                "removeNote(10)" + INDEX, "removeNote(9) = 1");
        EDGES.edge("promise 7, removeNote: notes far out", "removeNote(" + Edges.LEAST_INT + ")" + INDEX,
                "removeNote(" + Edges.GREATEST_INT + ")" + INDEX);
        EDGES.edge("promise 7, removeNote: twelve words", "type " + TWELVE_WORDS, "setNote(5) = 0",
                "removeNote(5) = 12");
        EDGES.richEdge("promise 7, removeNote: a note without a text", "removeNote(0)" + STATE,
                "removeNote(2)" + STATE, "removeNote(8)" + STATE, "removeNote(10)" + INDEX);
        EDGES.richEdge("promise 7, removeNote: the other notes and the buffer stay", "removeNote(1) = 2",
                "removeNote(1)" + STATE, "removeNote(9) = 1", "clearInput() = 3");
        EDGES.edge("promise 7, removeNote: it is not shown any more", "type a^3", "load() = 1", "type n",
                "setNote(3) = 0", "setStyle(4, 1) = 0", "page(0, 4) = 2", "removeNote(3) = 1", "page(0, 4) = 0",
                "page(0, 5) = 1", "shown(0, 7, 0) = 32");
    }
}
