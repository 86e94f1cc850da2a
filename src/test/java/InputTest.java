/** Promises 1 to 7: a new object and the input. */
public final class InputTest {
    private static final Script SCRIPT = new Script();
    private static final String TWELVE_WORDS = "a b c d e f g h i j k l";
    private static final String TEN_PARAGRAPHS = "a|b|c|d|e|f|g|h|i|j";

    public static void main(String[] args) {
        newObject();
        append();
        clearInput();
        firstErrorOfWords();
        firstErrorOfLists();
        firstErrorOfBooks();
        load();
        loadRefuses();
        setNote();
        removeNote();
        SCRIPT.end();
    }

    private static void newObject() {
        SCRIPT.run("promise 1",
                "count(0) = 1", "count(1) = 1", "count(2) = 1", "count(3) = 1", "count(4) = 1", "count(5) = 0",
                "count(6) = 0", "count(7) = 0", "count(8) = 0", "count(9) = 0", "count(10) = 0", "count(11) = 0",
                "paragraph(0, 0) = 0", "paragraph(0, 2) = 1", "letter(0, 0) = 97", "line(0, 3) = 3",
                "shown(0, 0, 2) = 97", "shown(0, 7, 29) = 32",
                "shown(0, 8, 0) = throws IllegalArgumentException",
                "shown(0, 0, 30) = throws IllegalArgumentException",
                "removeNote(0) = throws IllegalStateException", "removeNote(9) = throws IllegalStateException",
                "undo() = throws IllegalStateException", "back() = throws IllegalStateException",
                "annotation(0, 0) = throws IndexOutOfBoundsException", "clearInput() = 0",
                "setStyle(0, 0) = 2", "setStyle(1, 0) = 4", "setStyle(2, 1) = 0", "setStyle(3, 1) = 0",
                "setStyle(4, 1) = 0");
        SCRIPT.due("NONE", BookPager.NONE, -1);
    }

    private static void append() {
        SCRIPT.run("promise 2",
                "append(31) = throws IllegalArgumentException", "append(127) = throws IllegalArgumentException",
                "append(-1) = throws IllegalArgumentException",
                "append(-2147483648) = throws IllegalArgumentException",
                "append(65633) = throws IllegalArgumentException",
                "append(32) = 1", "append(126) = 2", "append(94) = 3");
        SCRIPT.run("promise 2, a full buffer",
                "type " + "abcd ".repeat(19) + "abcd", "append(97) = 100",
                "append(97) = throws IllegalStateException", "append(127) = throws IllegalArgumentException",
                "append(31) = throws IllegalArgumentException", "clearInput() = 100", "append(97) = 1");
    }

    private static void clearInput() {
        SCRIPT.run("promise 3", "clearInput() = 0", "type ab", "clearInput() = 2", "clearInput() = 0",
                "firstError(true) = 0", "append(98) = 1", "find(true) = -1", "type  x", "clearInput() = 3");
    }

    private static void error(String text, int ofList, int ofBook) {
        SCRIPT.run("promise 4, \"" + text + "\"", "type " + text, "firstError(false) = " + ofList,
                "firstError(true) = " + ofBook, "clearInput() = " + text.length());
    }

    private static void firstErrorOfWords() {
        error("", 0, 0);
        error("azAZ09.,'", 9, 9);
        error("a-b", 1, 1);
        error("a@", 1, 1);
        error("a[", 1, 1);
        error("a`", 1, 1);
        error("a{", 1, 1);
        error("a/", 1, 1);
        error("a:", 1, 1);
        error("abcdefghijkl", 12, 12);
        error("abcdefghijklm", 12, 12);
        error("abcdefghijkl^1", 14, 14);
        error("a abcdefghijklm", 14, 14);
        error("a^", 2, 2);
        error("a^x", 2, 2);
        error("a^ ", 2, 2);
        error("a^0", 3, 3);
        error("a^12", 3, 3);
        error("a^1b", 3, 3);
        error("a^1^", 3, 3);
        error("a^1 b^9", 7, 7);
        error("^1", 0, 0);
        error("a ^1", 2, 2);
    }

    private static void firstErrorOfLists() {
        error("a ", 2, 2);
        error(" a", 0, 0);
        error("a  b", 2, 2);
        error(TWELVE_WORDS, 23, 23);
        error(TWELVE_WORDS + " ", 23, 24);
        error(TWELVE_WORDS + "^1 ", 25, 26);
        error(TWELVE_WORDS + " m", 23, 25);
        error("a|b", 1, 3);
        error("#a", 0, 2);
        error(">a", 0, 2);
    }

    private static void firstErrorOfBooks() {
        error("a#", 1, 1);
        error("a>", 1, 1);
        error("a #b", 2, 2);
        error("# a", 0, 1);
        error("#|a", 0, 1);
        error("##a", 0, 1);
        error("#>a", 0, 1);
        error("|a", 0, 0);
        error("a||b", 1, 2);
        error("a |b", 2, 2);
        error("a| b", 1, 2);
        error("a|#", 1, 3);
        error("a|#b^1|>c", 1, 9);
        error("a^|b", 2, 2);
        error(TWELVE_WORDS + " " + TWELVE_WORDS, 23, 47);
        error(TWELVE_WORDS + " " + TWELVE_WORDS + " ", 23, 47);
        error(TWELVE_WORDS + " " + TWELVE_WORDS + "|#" + TWELVE_WORDS + " m", 23, 74);
        error(TEN_PARAGRAPHS, 1, 19);
        error(TEN_PARAGRAPHS + " k", 1, 21);
        error(TEN_PARAGRAPHS + "|", 1, 19);
        error(TEN_PARAGRAPHS + "|k", 1, 19);
    }

    private static void load() {
        SCRIPT.run("promise 5",
                "type one two|#three", "load() = 2", "clearInput() = 0", "count(0) = 2", "count(1) = 3",
                "count(2) = 12", "paragraph(0, 0) = 0", "paragraph(1, 0) = 1", "paragraph(1, 2) = 5",
                "letter(0, 3) = 32", "letter(0, 6) = 111", "letter(1, 0) = 116",
                "go(1, 2) = 0", "annotate(0, 0, 3, 1) = 0", "split(0, 1) = 3", "setSize(40, 5) = 1",
                "setStyle(2, 1) = 0", "type note", "setNote(3) = 0",
                "type >x^3", "load() = 1", "count(0) = 1", "paragraph(0, 0) = 2", "paragraph(0, 2) = 3",
                "letter(0, 1) = 94", "letter(0, 2) = 51", "count(6) = 0", "count(7) = 0", "count(9) = 0",
                "count(10) = 0", "undo() = throws IllegalStateException", "back() = throws IllegalStateException",
                "clearInput() = 0", "setStyle(2, 1) = 1", "shown(0, 4, 39) = 32", "removeNote(3) = 1");
        SCRIPT.run("promise 5, ten paragraphs of each kind", "type " + TEN_PARAGRAPHS, "load() = 10",
                "count(2) = 10", "paragraph(9, 1) = 1", "letter(9, 0) = 106",
                "paragraph(10, 0) = throws IndexOutOfBoundsException");
        SCRIPT.run("promise 5, twenty-four words", "type " + TWELVE_WORDS + " " + TWELVE_WORDS, "load() = 1",
                "paragraph(0, 1) = 24", "paragraph(0, 2) = 47");
    }

    private static void loadRefuses() {
        for (String text : new String[] {"", "a ", "a|", "a^", "#", ">", "a|>", "a-", "#a b#", TEN_PARAGRAPHS + "|k"}) {
            SCRIPT.run("promise 5, \"" + text + "\"", "type " + text, "load() = throws IllegalStateException",
                    "clearInput() = " + text.length(), "letter(0, 0) = 97");
        }
    }

    private static void setNote() {
        SCRIPT.run("promise 6",
                "type a b c", "setNote(0) = 0", "clearInput() = 0", "type d^1", "setNote(0) = 3",
                "type " + TWELVE_WORDS, "setNote(9) = 0", "removeNote(9) = 12", "removeNote(0) = 1",
                "type ab", "setNote(10) = throws IndexOutOfBoundsException",
                "setNote(-1) = throws IndexOutOfBoundsException", "clearInput() = 2",
                "setNote(0) = throws IllegalStateException", "setNote(10) = throws IndexOutOfBoundsException",
                "type a|b", "setNote(1) = throws IllegalStateException", "clearInput() = 3",
                "type #b", "setNote(1) = throws IllegalStateException", "clearInput() = 2",
                "type a ", "setNote(1) = throws IllegalStateException", "clearInput() = 2",
                "type " + TWELVE_WORDS + " m", "setNote(1) = throws IllegalStateException", "clearInput() = 25",
                "removeNote(1) = throws IllegalStateException");
    }

    private static void removeNote() {
        SCRIPT.run("promise 7",
                "removeNote(10) = throws IndexOutOfBoundsException",
                "removeNote(-1) = throws IndexOutOfBoundsException",
                "removeNote(4) = throws IllegalStateException", "type a b", "setNote(4) = 0",
                "removeNote(5) = throws IllegalStateException", "removeNote(4) = 2",
                "removeNote(4) = throws IllegalStateException");
        SCRIPT.run("promise 7, the page", "type a^4", "load() = 1", "type x", "setNote(4) = 0",
                "setStyle(4, 1) = 0", "page(0, 4) = 2", "shown(0, 7, 0) = 52", "removeNote(4) = 1",
                "page(0, 4) = 0", "shown(0, 7, 0) = 32");
    }
}
