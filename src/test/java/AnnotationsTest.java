/** Promises 23 to 25: annotations. */
public final class AnnotationsTest {
    private static final Script SCRIPT = new Script();

    public static void main(String[] args) {
        annotate();
        twelveAnnotations();
        annotation();
        removeAnnotation();
        SCRIPT.end();
    }

    private static void annotate() {
        SCRIPT.run("promise 23",
                "type ab cd|e", "load() = 2", "annotate(0, 0, 1, 0) = 0", "annotate(0, 4, 5, 7) = 1",
                "annotate(0, 0, 5, 3) = 2", "annotate(1, 0, 1, 3) = 3", "count(7) = 4",
                "annotate(2, 0, 1, 0) = throws IndexOutOfBoundsException",
                "annotate(-1, 0, 1, 0) = throws IndexOutOfBoundsException",
                "annotate(0, -1, 1, 0) = throws IndexOutOfBoundsException",
                "annotate(0, 5, 6, 0) = throws IndexOutOfBoundsException",
                "annotate(0, 0, 6, 0) = throws IndexOutOfBoundsException",
                "annotate(0, 2, 2, 0) = throws IndexOutOfBoundsException",
                "annotate(0, 2, 1, 0) = throws IndexOutOfBoundsException",
                "annotate(1, 0, 2, 0) = throws IndexOutOfBoundsException",
                "annotate(0, 2147483647, -2147483648, 0) = throws IndexOutOfBoundsException",
                "annotate(0, 0, 1, 8) = throws IllegalArgumentException",
                "annotate(0, 0, 1, -1) = throws IllegalArgumentException",
                "annotate(0, 0, 6, 8) = throws IndexOutOfBoundsException", "count(7) = 4", "count(10) = 0");
    }

    private static void twelveAnnotations() {
        String[] rows = new String[20];
        rows[0] = "type ab";
        rows[1] = "load() = 1";
        for (int made = 0; made < 12; made++) {
            rows[made + 2] = "annotate(0, 0, 2, " + made % 8 + ") = " + made;
        }
        rows[14] = "annotate(0, 0, 2, 0) = throws IllegalStateException";
        rows[15] = "annotate(0, 0, 2, 8) = throws IllegalArgumentException";
        rows[16] = "annotate(0, 0, 3, 8) = throws IndexOutOfBoundsException";
        rows[17] = "annotation(11, 3) = 3";
        rows[18] = "removeAnnotation(0) = 11";
        rows[19] = "annotate(0, 1, 2, 6) = 11";
        SCRIPT.run("promise 23, twelve", rows);
    }

    private static void annotation() {
        SCRIPT.run("promise 24",
                "type aaaaaaaaaaaa bbbbbbbbbbbb|cc dd", "load() = 2", "setSize(18, 2) = 2",
                "annotate(0, 12, 20, 5) = 0", "annotate(1, 3, 5, 0) = 1",
                "annotation(0, 0) = 0", "annotation(0, 1) = 12", "annotation(0, 2) = 20", "annotation(0, 3) = 5",
                "annotation(0, 4) = 0", "annotation(0, 5) = 0", "annotation(1, 0) = 1", "annotation(1, 1) = 3",
                "annotation(1, 2) = 5", "annotation(1, 5) = 1",
                "delete(1, 1, 1) = 1", "annotation(1, 0) = 1", "annotation(1, 1) = 2", "annotation(1, 2) = 2",
                "annotation(1, 3) = 0", "annotation(1, 4) = 1", "annotation(1, 5) = -1",
                "annotation(2, 0) = throws IndexOutOfBoundsException",
                "annotation(-1, 0) = throws IndexOutOfBoundsException",
                "annotation(0, 6) = throws IllegalArgumentException",
                "annotation(0, -1) = throws IllegalArgumentException",
                "annotation(2, 6) = throws IndexOutOfBoundsException");
    }

    private static void removeAnnotation() {
        SCRIPT.run("promise 25",
                "type abc", "load() = 1", "annotate(0, 0, 1, 1) = 0", "annotate(0, 1, 2, 2) = 1",
                "annotate(0, 2, 3, 3) = 2", "removeAnnotation(3) = throws IndexOutOfBoundsException",
                "removeAnnotation(-1) = throws IndexOutOfBoundsException", "removeAnnotation(1) = 2",
                "annotation(0, 3) = 1", "annotation(1, 3) = 3", "annotation(1, 1) = 2", "annotation(1, 2) = 3",
                "annotation(2, 0) = throws IndexOutOfBoundsException", "removeAnnotation(1) = 1",
                "removeAnnotation(0) = 0", "removeAnnotation(0) = throws IndexOutOfBoundsException",
                "count(7) = 0", "count(10) = 0");
    }
}
