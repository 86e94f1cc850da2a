/** Promises 16 to 22: the reader, and what is told of the book. */
public final class ReaderTest {
    private static final Script SCRIPT = new Script();
    private static final String THREE_PAGES = "a b|c d|e f|g h|i j";

    public static void main(String[] args) {
        go();
        turn();
        back();
        find();
        findRefuses();
        count();
        paragraph();
        letter();
        SCRIPT.end();
    }

    private static void go() {
        SCRIPT.run("promise 16",
                "type " + THREE_PAGES, "load() = 5", "setSize(18, 2) = 3", "go(4, 2) = 2", "count(6) = 4002",
                "count(5) = 2", "count(9) = 1", "go(4, 2) = 2", "count(9) = 2", "go(2, 1) = 1", "count(6) = 2001",
                "go(5, 0) = throws IndexOutOfBoundsException", "go(-1, 0) = throws IndexOutOfBoundsException",
                "go(0, 3) = throws IndexOutOfBoundsException", "go(0, -1) = throws IndexOutOfBoundsException",
                "go(0, 2147483647) = throws IndexOutOfBoundsException", "count(9) = 3", "count(6) = 2001");
        SCRIPT.run("promise 16, the oldest jump goes",
                "type a b c d e f g", "load() = 1", "go(0, 2) = 0", "go(0, 4) = 0", "go(0, 6) = 0", "go(0, 8) = 0",
                "go(0, 10) = 0", "count(9) = 5", "go(0, 12) = 0", "count(9) = 5",
                "back() = 0", "count(6) = 10", "back() = 0", "count(6) = 8", "back() = 0", "count(6) = 6",
                "back() = 0", "count(6) = 4", "back() = 0", "count(6) = 2", "count(9) = 0",
                "back() = throws IllegalStateException", "count(6) = 2");
    }

    private static void turn() {
        SCRIPT.run("promise 17",
                "type " + THREE_PAGES, "load() = 5", "setSize(18, 2) = 3", "turn(false) = -1", "turn(true) = 1",
                "count(6) = 2000", "turn(true) = 2", "count(6) = 4000", "turn(true) = -1", "count(6) = 4000",
                "count(9) = 0", "go(3, 1) = 1", "turn(false) = 0", "count(6) = 0", "count(9) = 1", "go(3, 1) = 1",
                "turn(true) = 2", "count(6) = 4000", "go(4, 2) = 2", "turn(true) = -1", "count(6) = 4002");
    }

    private static void back() {
        SCRIPT.run("promise 18",
                "type " + THREE_PAGES, "load() = 5", "setSize(18, 2) = 3", "back() = throws IllegalStateException",
                "go(4, 1) = 2", "go(0, 0) = 0", "turn(true) = 1", "back() = 2", "count(6) = 4001", "count(9) = 1",
                "back() = 0", "count(6) = 0", "back() = throws IllegalStateException");
    }

    private static void find() {
        SCRIPT.run("promise 19",
                "type ab a ab|a^1 ab", "load() = 2", "type ab", "find(true) = 5", "find(false) = -1",
                "go(0, 5) = 0", "find(true) = 1004", "find(false) = 0", "go(0, 6) = 0", "find(false) = 5",
                "go(1, 4) = 0", "find(true) = -1", "find(false) = 5", "count(6) = 1004", "clearInput() = 2",
                "type a", "find(false) = 3", "find(true) = -1", "type ^1 zz", "find(false) = 1000",
                "clearInput() = 6", "type abc", "find(false) = -1", "clearInput() = 3",
                "type a^2", "find(false) = -1", "clearInput() = 3", "type AB", "find(false) = -1");
        SCRIPT.run("promise 19, the reader within the word", "type ab cd", "load() = 1", "go(0, 4) = 0", "type cd",
                "find(false) = 3", "find(true) = -1", "go(0, 2) = 0", "find(true) = 3", "find(false) = -1");
        SCRIPT.run("promise 19, the first word alone counts", "type x y|y z", "load() = 2", "type y x",
                "find(true) = 2", "go(0, 2) = 0", "find(true) = 1000");
    }

    private static void findRefuses() {
        for (String text : new String[] {"", "a ", "#a", "a|b", "a^", "a b c d e f g h i j k l m"}) {
            SCRIPT.run("promise 19, \"" + text + "\"", "type " + text, "find(true) = throws IllegalStateException",
                    "find(false) = throws IllegalStateException", "clearInput() = " + text.length());
        }
    }

    private static void count() {
        SCRIPT.run("promise 20",
                "type abcd|e f|g", "load() = 3", "setSize(18, 2) = 2", "count(0) = 3", "count(1) = 4",
                "count(2) = 8", "count(3) = 3", "count(4) = 2", "go(1, 2) = 0", "count(5) = 0", "count(6) = 1002",
                "count(11) = 750", "go(2, 0) = 1", "count(5) = 1", "count(11) = 875", "count(9) = 2",
                "annotate(1, 0, 1, 0) = 0", "annotate(1, 1, 3, 0) = 1", "count(7) = 2", "count(8) = 0",
                "delete(1, 0, 1) = 1", "count(7) = 2", "count(8) = 1", "count(10) = 1", "join(0) = 2",
                "count(10) = 2", "undo() = 1", "count(10) = 1", "count(-1) = throws IllegalArgumentException",
                "count(12) = throws IllegalArgumentException",
                "count(-2147483648) = throws IllegalArgumentException");
        SCRIPT.run("promise 20, rounded down", "type abcd|ef", "load() = 2", "go(1, 1) = 0", "count(11) = 833",
                "go(0, 1) = 0", "count(11) = 166");
    }

    private static void paragraph() {
        SCRIPT.run("promise 21",
                "type #ab cd|>aaaaaaaaaaaa bbbbbbbbbbbb^1|c", "load() = 3", "setSize(18, 2) = 2",
                "paragraph(0, 0) = 1", "paragraph(1, 0) = 2", "paragraph(2, 0) = 0", "paragraph(0, 1) = 2",
                "paragraph(0, 2) = 5", "paragraph(1, 2) = 27", "paragraph(0, 3) = 1", "paragraph(1, 3) = 2",
                "paragraph(0, 4) = 0", "paragraph(1, 4) = 0", "paragraph(2, 4) = 1",
                "paragraph(3, 0) = throws IndexOutOfBoundsException",
                "paragraph(-1, 0) = throws IndexOutOfBoundsException",
                "paragraph(0, 5) = throws IllegalArgumentException",
                "paragraph(0, -1) = throws IllegalArgumentException",
                "paragraph(3, 5) = throws IndexOutOfBoundsException");
    }

    private static void letter() {
        SCRIPT.run("promise 22",
                "type #Ab c^9|,'", "load() = 2", "letter(0, 0) = 65", "letter(0, 2) = 32", "letter(0, 5) = 57",
                "letter(1, 0) = 44", "letter(1, 1) = 39", "letter(0, 6) = throws IndexOutOfBoundsException",
                "letter(0, -1) = throws IndexOutOfBoundsException",
                "letter(1, 2) = throws IndexOutOfBoundsException",
                "letter(2, 0) = throws IndexOutOfBoundsException",
                "letter(-1, 0) = throws IndexOutOfBoundsException",
                "letter(-2147483648, 2147483647) = throws IndexOutOfBoundsException");
    }
}
