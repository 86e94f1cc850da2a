/** Promises 26 to 30: edits, and how they change annotations and positions. */
public final class EditsTest {
    private static final Script SCRIPT = new Script();
    private static final String TWELVE_WORDS = "a b c d e f g h i j k l";

    public static void main(String[] args) {
        insert();
        insertMoves();
        insertRefuses();
        delete();
        deleteMoves();
        deleteLastWords();
        lostAnnotations();
        deleteRefuses();
        split();
        splitMoves();
        splitAtReader();
        splitLostAnnotations();
        splitRefuses();
        join();
        joinMoves();
        joinRefuses();
        undo();
        undoForgets();
        notesAfterEdits();
        SCRIPT.end();
    }

    private static void insert() {
        SCRIPT.run("promise 26",
                "type ab cd|x", "load() = 2", "type e f", "insert(0, 1) = 4", "clearInput() = 0",
                "paragraph(0, 2) = 9", "letter(0, 2) = 32", "letter(0, 3) = 101", "letter(0, 5) = 102",
                "letter(0, 6) = 32", "letter(0, 7) = 99", "letter(1, 0) = 120", "type g^1", "insert(0, 4) = 5",
                "letter(0, 9) = 32", "letter(0, 10) = 103", "letter(0, 12) = 49", "paragraph(0, 2) = 13",
                "type h", "insert(0, 0) = 6", "letter(0, 0) = 104", "letter(0, 1) = 32", "letter(0, 2) = 97",
                "type y", "insert(1, 1) = 2", "letter(1, 2) = 121", "count(10) = 4", "count(1) = 8");
        SCRIPT.run("promise 26, up to twenty-four words",
                "type " + TWELVE_WORDS, "load() = 1", "type " + TWELVE_WORDS, "insert(0, 12) = 24", "type x",
                "insert(0, 0) = throws IllegalStateException", "insert(0, 24) = throws IllegalStateException",
                "insert(0, 25) = throws IndexOutOfBoundsException", "clearInput() = 1", "paragraph(0, 2) = 47");
    }

    private static void insertMoves() {
        SCRIPT.run("promise 26, before a word",
                "type ab cd ef|g", "load() = 2",
                "annotate(0, 0, 3, 0) = 0", "annotate(0, 3, 5, 0) = 1", "annotate(0, 2, 4, 0) = 2",
                "annotate(0, 6, 8, 0) = 3", "annotate(1, 0, 1, 0) = 4", "go(0, 3) = 0", "go(0, 2) = 0",
                "go(1, 0) = 0", "type x", "insert(0, 1) = 4",
                "annotation(0, 1) = 0", "annotation(0, 2) = 3", "annotation(1, 1) = 5", "annotation(1, 2) = 7",
                "annotation(2, 1) = 2", "annotation(2, 2) = 6", "annotation(3, 1) = 8", "annotation(3, 2) = 10",
                "annotation(4, 1) = 0", "annotation(4, 2) = 1", "annotation(4, 0) = 1", "count(6) = 1000",
                "back() = 0", "count(6) = 2", "back() = 0", "count(6) = 5", "back() = 0", "count(6) = 0");
        SCRIPT.run("promise 26, before the first word",
                "type ab|cd", "load() = 2", "annotate(0, 0, 2, 0) = 0", "annotate(1, 0, 2, 0) = 1",
                "type xyz", "insert(1, 0) = 2", "annotation(0, 2) = 2", "annotation(1, 1) = 4",
                "annotation(1, 2) = 6", "count(6) = 0", "type x", "insert(0, 0) = 2", "count(6) = 2");
        SCRIPT.run("promise 26, behind the last word",
                "type ab cd|e", "load() = 2", "annotate(0, 0, 5, 0) = 0", "annotate(1, 0, 1, 0) = 1",
                "go(0, 4) = 0", "type x", "insert(0, 2) = 3", "annotation(0, 1) = 0", "annotation(0, 2) = 5",
                "annotation(1, 0) = 1", "annotation(1, 1) = 0", "count(6) = 4");
    }

    private static void insertRefuses() {
        SCRIPT.run("promise 26, wrong inputs",
                "insert(0, 0) = throws IllegalStateException", "type x",
                "insert(1, 0) = throws IndexOutOfBoundsException", "insert(-1, 0) = throws IndexOutOfBoundsException",
                "insert(0, 2) = throws IndexOutOfBoundsException", "insert(0, -1) = throws IndexOutOfBoundsException",
                "type |y", "insert(0, 1) = throws IllegalStateException",
                "insert(0, 2) = throws IndexOutOfBoundsException", "clearInput() = 3",
                "type y ", "insert(0, 1) = throws IllegalStateException", "clearInput() = 2",
                "type " + TWELVE_WORDS + " m", "insert(0, 1) = throws IllegalStateException", "count(10) = 0");
    }

    private static void delete() {
        SCRIPT.run("promise 27",
                "type ab cd^1 ef gh|x", "load() = 2", "delete(0, 1, 1) = 3", "paragraph(0, 2) = 8",
                "letter(0, 2) = 32", "letter(0, 3) = 101", "delete(0, 2, 1) = 2", "paragraph(0, 2) = 5",
                "letter(0, 4) = 102", "delete(0, 0, 1) = 1", "letter(0, 0) = 101", "paragraph(0, 2) = 2",
                "letter(1, 0) = 120", "count(10) = 3", "page(0, 5) = 0");
    }

    private static void deleteMoves() {
        SCRIPT.run("promise 27, words that are followed by another",
                "type ab cd ef gh|x", "load() = 2",
                "annotate(0, 0, 3, 0) = 0", "annotate(0, 0, 4, 0) = 1", "annotate(0, 4, 10, 0) = 2",
                "annotate(0, 3, 6, 0) = 3", "annotate(0, 6, 7, 0) = 4", "annotate(0, 2, 6, 0) = 5",
                "annotate(1, 0, 1, 0) = 6", "go(0, 2) = 0", "go(0, 5) = 0", "go(0, 6) = 0", "go(0, 10) = 0",
                "go(1, 0) = 0", "delete(0, 1, 1) = 3",
                "annotation(0, 1) = 0", "annotation(0, 2) = 3", "annotation(1, 2) = 3", "annotation(2, 1) = 3",
                "annotation(2, 2) = 7", "annotation(3, 1) = 3", "annotation(3, 2) = 3", "annotation(3, 4) = 1",
                "annotation(4, 1) = 3", "annotation(4, 2) = 4", "annotation(5, 1) = 2", "annotation(5, 2) = 3",
                "annotation(5, 4) = 0", "annotation(6, 0) = 1", "annotation(6, 1) = 0", "count(8) = 1",
                "count(6) = 1000", "back() = 0", "count(6) = 7", "back() = 0", "count(6) = 3", "back() = 0",
                "count(6) = 3", "back() = 0", "count(6) = 2");
    }

    private static void deleteLastWords() {
        SCRIPT.run("promise 27, the last words",
                "type ab cd ef|x", "load() = 2",
                "annotate(0, 0, 8, 0) = 0", "annotate(0, 2, 3, 0) = 1", "annotate(0, 3, 8, 0) = 2",
                "annotate(0, 1, 3, 0) = 3", "annotate(0, 0, 2, 0) = 4", "annotate(1, 0, 1, 0) = 5",
                "go(0, 1) = 0", "go(0, 2) = 0", "go(0, 7) = 0", "go(1, 0) = 0", "delete(0, 1, 2) = 1",
                "annotation(0, 1) = 0", "annotation(0, 2) = 2", "annotation(1, 1) = 2", "annotation(1, 2) = 2",
                "annotation(1, 4) = 1", "annotation(2, 1) = 2", "annotation(2, 2) = 2", "annotation(2, 4) = 1",
                "annotation(3, 1) = 1", "annotation(3, 2) = 2", "annotation(3, 4) = 0", "annotation(4, 2) = 2",
                "annotation(5, 0) = 1", "annotation(5, 2) = 1", "count(8) = 2",
                "count(6) = 1000", "back() = 0", "count(6) = 1", "back() = 0", "count(6) = 1", "back() = 0",
                "count(6) = 1", "back() = 0", "count(6) = 0");
    }

    private static void lostAnnotations() {
        SCRIPT.run("a lost annotation moves like a character",
                "type ab cd ef|x", "load() = 2", "annotate(0, 3, 5, 6) = 0", "delete(0, 1, 1) = 2",
                "annotation(0, 1) = 3", "annotation(0, 2) = 3", "type yy", "insert(0, 1) = 3",
                "annotation(0, 1) = 6", "annotation(0, 2) = 6", "annotation(0, 4) = 1", "annotation(0, 3) = 6",
                "delete(0, 0, 1) = 2", "annotation(0, 1) = 3", "annotation(0, 2) = 3", "delete(0, 1, 1) = 1",
                "annotation(0, 1) = 2", "annotation(0, 2) = 2", "annotation(0, 0) = 0", "annotation(0, 4) = 1");
        SCRIPT.run("a lost annotation behind the last character",
                "type ab cd|x", "load() = 2", "annotate(0, 2, 5, 0) = 0", "delete(0, 1, 1) = 1",
                "annotation(0, 1) = 2", "annotation(0, 0) = 0", "type yy", "insert(0, 1) = 2",
                "annotation(0, 1) = 5", "annotation(0, 2) = 5", "annotation(0, 0) = 0", "annotation(0, 4) = 1",
                "join(0) = 3", "annotation(0, 1) = 5", "annotation(0, 0) = 0", "type z", "insert(0, 2) = 4",
                "annotation(0, 1) = 5", "page(0, 6) = 0", "count(8) = 1");
    }

    private static void deleteRefuses() {
        SCRIPT.run("promise 27, wrong inputs",
                "type a b c|d", "load() = 2",
                "delete(2, 0, 1) = throws IndexOutOfBoundsException",
                "delete(-1, 0, 1) = throws IndexOutOfBoundsException",
                "delete(0, 3, 1) = throws IndexOutOfBoundsException",
                "delete(0, -1, 1) = throws IndexOutOfBoundsException",
                "delete(0, 0, 0) = throws IndexOutOfBoundsException",
                "delete(0, 0, -1) = throws IndexOutOfBoundsException",
                "delete(0, 0, 4) = throws IndexOutOfBoundsException",
                "delete(0, 2, 2) = throws IndexOutOfBoundsException",
                "delete(0, 1, 2147483647) = throws IndexOutOfBoundsException",
                "delete(0, 0, 3) = throws IllegalStateException",
                "delete(1, 0, 1) = throws IllegalStateException",
                "delete(1, 0, 2) = throws IndexOutOfBoundsException", "count(10) = 0");
    }

    private static void split() {
        SCRIPT.run("promise 28",
                "type #ab cd|>ef gh ij|k l", "load() = 3", "split(0, 1) = 4", "paragraph(0, 0) = 1",
                "paragraph(1, 0) = 0", "paragraph(0, 2) = 2", "paragraph(1, 2) = 2", "letter(1, 0) = 99",
                "split(2, 2) = 5", "paragraph(2, 0) = 2", "paragraph(3, 0) = 2", "paragraph(2, 2) = 5",
                "paragraph(3, 2) = 2", "letter(3, 1) = 106", "split(4, 1) = 6", "paragraph(5, 0) = 0",
                "letter(5, 0) = 108", "count(2) = 13", "count(1) = 7", "count(10) = 3");
    }

    private static void splitMoves() {
        SCRIPT.run("promise 28, annotations and positions",
                "type ab cd|x", "load() = 2",
                "annotate(0, 0, 5, 0) = 0", "annotate(0, 2, 3, 0) = 1", "annotate(0, 2, 5, 0) = 2",
                "annotate(0, 3, 5, 0) = 3", "annotate(0, 4, 5, 0) = 4", "annotate(0, 0, 2, 0) = 5",
                "annotate(0, 1, 3, 0) = 6", "annotate(1, 0, 1, 0) = 7", "go(0, 2) = 0", "go(0, 3) = 0",
                "go(0, 4) = 0", "go(1, 0) = 0", "split(0, 1) = 3",
                "annotation(0, 0) = 0", "annotation(0, 2) = 2", "annotation(1, 0) = 0", "annotation(1, 1) = 2",
                "annotation(1, 2) = 2", "annotation(1, 4) = 1", "annotation(2, 0) = 0", "annotation(2, 2) = 2",
                "annotation(2, 4) = 1", "annotation(3, 0) = 1", "annotation(3, 1) = 0", "annotation(3, 2) = 2",
                "annotation(4, 0) = 1", "annotation(4, 1) = 1", "annotation(5, 2) = 2", "annotation(6, 2) = 2",
                "annotation(6, 4) = 0", "annotation(7, 0) = 2", "annotation(7, 1) = 0", "count(6) = 2000",
                "back() = 0", "count(6) = 1001", "back() = 0", "count(6) = 1000", "back() = 0", "count(6) = 1",
                "back() = 0", "count(6) = 0");
    }

    private static void splitAtReader() {
        SCRIPT.run("promise 28, the reader at the blank",
                "type ab cd", "load() = 1", "go(0, 2) = 0", "split(0, 1) = 2", "count(6) = 1", "undo() = 0",
                "count(6) = 2");
        SCRIPT.run("promise 28, the oldest jump at the blank",
                "type ab cd", "load() = 1", "go(0, 2) = 0", "go(0, 0) = 0", "go(0, 0) = 0", "go(0, 0) = 0",
                "go(0, 0) = 0", "go(0, 0) = 0", "split(0, 1) = 2", "back() = 0", "back() = 0", "back() = 0",
                "back() = 0", "count(6) = 0", "back() = 0", "count(6) = 1");
        SCRIPT.run("edits move the oldest jump, too",
                "type ab cd ef", "load() = 1", "type x", "insert(0, 0) = 4", "count(6) = 2", "go(0, 0) = 0",
                "type y", "insert(0, 0) = 5", "back() = 0", "count(6) = 4", "go(0, 0) = 0",
                "delete(0, 0, 1) = 4", "back() = 0", "count(6) = 2");
        SCRIPT.run("edits change the pages",
                "type ab cd ef", "load() = 1", "setSize(18, 2) = 1", "split(0, 1) = 2", "count(3) = 2",
                "split(1, 1) = 3", "count(4) = 2", "join(0) = 2", "count(4) = 1", "join(0) = 3", "count(3) = 1");
    }

    private static void splitLostAnnotations() {
        SCRIPT.run("promise 28, lost annotations",
                "type ab cd ef gh", "load() = 1", "annotate(0, 3, 5, 1) = 0", "annotate(0, 2, 3, 2) = 1",
                "annotate(0, 9, 11, 3) = 2", "delete(0, 1, 1) = 3", "annotation(0, 4) = 1",
                "annotation(1, 4) = 0", "delete(0, 2, 1) = 2", "annotation(2, 1) = 5", "annotation(2, 4) = 1",
                "split(0, 1) = 2", "annotation(0, 0) = 1", "annotation(0, 1) = 0", "annotation(0, 2) = 0",
                "annotation(1, 0) = 0", "annotation(1, 1) = 2", "annotation(1, 4) = 1", "annotation(2, 0) = 1",
                "annotation(2, 1) = 2", "join(0) = 2", "annotation(0, 0) = 0", "annotation(0, 1) = 3",
                "annotation(1, 1) = 2", "annotation(2, 1) = 5", "split(0, 1) = 2", "annotation(1, 0) = 0",
                "annotation(1, 1) = 2", "count(8) = 3");
    }

    private static void splitRefuses() {
        SCRIPT.run("promise 28, wrong inputs",
                "type a b|c", "load() = 2", "split(2, 1) = throws IndexOutOfBoundsException",
                "split(-1, 1) = throws IndexOutOfBoundsException", "split(0, 0) = throws IndexOutOfBoundsException",
                "split(0, 2) = throws IndexOutOfBoundsException", "split(0, -1) = throws IndexOutOfBoundsException",
                "split(1, 1) = throws IndexOutOfBoundsException",
                "split(0, 2147483647) = throws IndexOutOfBoundsException", "count(10) = 0");
        SCRIPT.run("promise 28, ten paragraphs",
                "type a b|b|c|d|e|f|g|h|i", "load() = 9", "split(0, 1) = 10", "type x y", "insert(0, 1) = 3",
                "split(0, 1) = throws IllegalStateException", "split(0, 3) = throws IndexOutOfBoundsException",
                "count(0) = 10");
    }

    private static void join() {
        SCRIPT.run("promise 29",
                "type #ab|>cd ef|g", "load() = 3", "join(0) = 3", "count(0) = 2", "paragraph(0, 0) = 1",
                "paragraph(0, 2) = 8", "letter(0, 2) = 32", "letter(0, 3) = 99", "paragraph(1, 0) = 0",
                "letter(1, 0) = 103", "join(0) = 4", "count(0) = 1", "paragraph(0, 2) = 10", "count(10) = 2");
        SCRIPT.run("promise 29, the kind of the first one", "type >a|#b", "load() = 2", "join(0) = 2",
                "paragraph(0, 0) = 2");
    }

    private static void joinMoves() {
        SCRIPT.run("promise 29, annotations and positions",
                "type ab|cd|ef", "load() = 3", "annotate(0, 0, 2, 0) = 0", "annotate(1, 0, 2, 0) = 1",
                "annotate(1, 1, 2, 0) = 2", "annotate(2, 1, 2, 0) = 3", "go(1, 1) = 0", "go(2, 0) = 0",
                "join(0) = 2", "annotation(0, 0) = 0", "annotation(0, 2) = 2", "annotation(1, 0) = 0",
                "annotation(1, 1) = 3", "annotation(1, 2) = 5", "annotation(2, 1) = 4", "annotation(3, 0) = 1",
                "annotation(3, 1) = 1", "count(6) = 1000", "back() = 0", "count(6) = 4");
    }

    private static void joinRefuses() {
        SCRIPT.run("promise 29, wrong inputs",
                "join(0) = throws IndexOutOfBoundsException", "type " + TWELVE_WORDS + "|" + TWELVE_WORDS + " m|n",
                "load() = 3", "join(0) = throws IllegalStateException", "join(2) = throws IndexOutOfBoundsException",
                "join(3) = throws IndexOutOfBoundsException", "join(-1) = throws IndexOutOfBoundsException",
                "join(2147483647) = throws IndexOutOfBoundsException", "count(10) = 0", "join(1) = 14",
                "delete(1, 0, 2) = 12", "join(0) = 24");
    }

    private static void undo() {
        SCRIPT.run("promise 30",
                "undo() = throws IllegalStateException", "type ab cd|ef", "load() = 2", "go(0, 4) = 0",
                "annotate(0, 3, 5, 2) = 0", "type x", "insert(0, 0) = 3", "go(1, 0) = 0", "annotate(1, 0, 1, 1) = 1",
                "removeAnnotation(0) = 1", "type y", "undo() = 0", "count(6) = 4", "count(9) = 1", "count(7) = 1",
                "annotation(0, 1) = 3", "annotation(0, 3) = 2", "paragraph(0, 2) = 5", "clearInput() = 1",
                "back() = 0", "count(6) = 0", "undo() = throws IllegalStateException");
        SCRIPT.run("promise 30, each kind of edit",
                "type ab cd|ef", "load() = 2", "annotate(0, 0, 5, 2) = 0", "type x", "insert(1, 1) = 2",
                "delete(0, 1, 1) = 1", "annotation(0, 2) = 2", "join(0) = 3", "split(0, 2) = 2",
                "count(10) = 4", "undo() = 3", "count(0) = 1", "undo() = 2", "count(0) = 2",
                "paragraph(0, 1) = 1", "undo() = 1", "annotation(0, 2) = 5", "letter(0, 3) = 99", "undo() = 0",
                "paragraph(1, 1) = 1");
    }

    private static void undoForgets() {
        SCRIPT.run("promise 30, the oldest edit is forgotten",
                "type a b c d e f g", "load() = 1", "delete(0, 0, 1) = 6", "delete(0, 0, 1) = 5",
                "delete(0, 0, 1) = 4", "delete(0, 0, 1) = 3", "count(10) = 4", "delete(0, 0, 1) = 2",
                "count(10) = 4", "undo() = 3", "letter(0, 0) = 101", "undo() = 2", "letter(0, 0) = 100",
                "delete(0, 1, 1) = 3", "count(10) = 3", "undo() = 2", "undo() = 1", "letter(0, 0) = 99",
                "undo() = 0", "letter(0, 0) = 98", "undo() = throws IllegalStateException", "paragraph(0, 1) = 6");
        SCRIPT.run("promise 30, a call that throws is no edit",
                "type a b", "load() = 1", "split(0, 1) = 2", "delete(0, 0, 1) = throws IllegalStateException",
                "split(0, 1) = throws IndexOutOfBoundsException", "count(10) = 1", "undo() = 0", "count(0) = 1");
    }

    private static void notesAfterEdits() {
        SCRIPT.run("notes are no part of what is saved",
                "type a", "load() = 1", "type x", "setNote(1) = 0", "setStyle(4, 1) = 0", "type b^1",
                "insert(0, 1) = 2", "page(0, 4) = 2", "removeNote(1) = 1", "page(0, 4) = 0", "undo() = 0",
                "removeNote(1) = throws IllegalStateException", "page(0, 5) = 0", "setStyle(4, 1) = 1");
    }
}
