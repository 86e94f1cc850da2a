/** Boundary cases of promises 23 to 25: annotations. */
public final class AnnotationsEdgesTest {
    private static final Edges EDGES = new Edges();
    private static final String INDEX = Edges.INDEX;
    private static final String ARGUMENT = Edges.ARGUMENT;
    private static final String STATE = Edges.STATE;
    /** Paragraphs of five, one and three characters. */
    private static final String[] BOOK = {"type ab cd|e|fgh", "load() = 3"};

    public static void main(String[] args) {
        annotateOffsets();
        annotateColors();
        annotateTwelve();
        annotateOrder();
        annotationArguments();
        annotationProperties();
        annotationPages();
        removeAnnotation();
        removeFromMany();
        EDGES.end();
    }

    private static String[] twelve() {
        String[] rows = {"type ab cd", "load() = 1"};
        for (int made = 0; made < 12; made++) {
            rows = Edges.joined(rows, "annotate(0, " + made % 5 + ", 5, " + made % 8 + ") = " + made);
        }
        return rows;
    }

    // ---- promise 23

    private static void annotateOffsets() {
        EDGES.edge("promise 23, annotate: the first character", Edges.joined(BOOK, "annotate(0, 0, 1, 0) = 0",
                "annotation(0, 1) = 0", "annotation(0, 2) = 1"));
        EDGES.edge("promise 23, annotate: just below the least first offset", Edges.joined(BOOK,
                "annotate(0, -1, 1, 0)" + INDEX, "annotate(1, -1, 1, 0)" + INDEX));
        EDGES.edge("promise 23, annotate: the last character", Edges.joined(BOOK, "annotate(0, 4, 5, 0) = 0",
                "annotation(0, 1) = 4", "annotation(0, 2) = 5"));
        EDGES.edge("promise 23, annotate: just above the greatest first offset", Edges.joined(BOOK,
                "annotate(0, 5, 6, 0)" + INDEX, "annotate(0, 5, 5, 0)" + INDEX));
        EDGES.edge("promise 23, annotate: the least end", Edges.joined(BOOK, "annotate(0, 2, 3, 0) = 0",
                "annotation(0, 2) = 3"));
        EDGES.edge("promise 23, annotate: just below the least end", Edges.joined(BOOK,
                "annotate(0, 2, 2, 0)" + INDEX, "annotate(0, 2, 1, 0)" + INDEX, "annotate(0, 0, 0, 0)" + INDEX));
        EDGES.edge("promise 23, annotate: the greatest end", Edges.joined(BOOK, "annotate(0, 0, 5, 0) = 0",
                "annotate(1, 0, 1, 0) = 1", "annotate(2, 0, 3, 0) = 2"));
        EDGES.edge("promise 23, annotate: just above the greatest end", Edges.joined(BOOK,
                "annotate(0, 0, 6, 0)" + INDEX, "annotate(1, 0, 2, 0)" + INDEX, "annotate(2, 2, 4, 0)" + INDEX));
        EDGES.edge("promise 23, annotate: just below the least paragraph", Edges.joined(BOOK,
                "annotate(-1, 0, 1, 0)" + INDEX));
        EDGES.edge("promise 23, annotate: the greatest paragraph", Edges.joined(BOOK, "annotate(2, 0, 1, 0) = 0",
                "annotation(0, 0) = 2"));
        EDGES.edge("promise 23, annotate: just above the greatest paragraph", Edges.joined(BOOK,
                "annotate(3, 0, 1, 0)" + INDEX));
        EDGES.edge("promise 23, annotate: far out", Edges.joined(BOOK,
                "annotate(" + Edges.LEAST_INT + ", 0, 1, 0)" + INDEX,
                "annotate(" + Edges.GREATEST_INT + ", 0, 1, 0)" + INDEX,
                "annotate(0, " + Edges.LEAST_INT + ", 1, 0)" + INDEX,
                "annotate(0, " + Edges.GREATEST_INT + ", " + Edges.LEAST_INT + ", 0)" + INDEX,
                "annotate(0, 0, " + Edges.LEAST_INT + ", 0)" + INDEX,
                "annotate(0, 0, " + Edges.GREATEST_INT + ", 0)" + INDEX));
        EDGES.edge("promise 23, annotate: the whole of the longest paragraph", Edges.joined(Edges.LONGEST,
                "annotate(9, 0, 360, 0)" + INDEX, "annotate(9, 0, 359, 0) = 0", "annotate(9, 358, 359, 0) = 1",
                "annotate(9, 359, 360, 0)" + INDEX));
    }

    private static void annotateColors() {
        EDGES.edge("promise 23, annotate: the least color", Edges.joined(BOOK, "annotate(0, 0, 1, 0) = 0",
                "annotation(0, 3) = 0"));
        EDGES.edge("promise 23, annotate: just below the least color", Edges.joined(BOOK,
                "annotate(0, 0, 1, -1)" + ARGUMENT));
        EDGES.edge("promise 23, annotate: the greatest color", Edges.joined(BOOK, "annotate(0, 0, 1, 7) = 0",
                "annotation(0, 3) = 7"));
        EDGES.edge("promise 23, annotate: just above the greatest color", Edges.joined(BOOK,
                "annotate(0, 0, 1, 8)" + ARGUMENT));
        EDGES.edge("promise 23, annotate: colors far out", Edges.joined(BOOK,
                "annotate(0, 0, 1, " + Edges.LEAST_INT + ")" + ARGUMENT,
                "annotate(0, 0, 1, " + Edges.GREATEST_INT + ")" + ARGUMENT));
    }

    private static void annotateTwelve() {
        EDGES.edge("promise 23, annotate: the twelfth one", Edges.joined(twelve(), "count(7) = 12",
                "annotation(11, 0) = 0", "annotation(11, 1) = 1", "annotation(11, 3) = 3", "annotation(0, 3) = 0"));
        EDGES.edge("promise 23, annotate: the thirteenth one", Edges.joined(twelve(), "annotate(0, 0, 1, 0)" + STATE,
                "count(7) = 12"));
        EDGES.edge("promise 23, annotate: where one of twelve was removed", Edges.joined(twelve(),
                "removeAnnotation(0) = 11", "annotate(0, 2, 4, 6) = 11", "annotation(11, 1) = 2",
                "annotation(11, 2) = 4", "annotation(11, 3) = 6", "annotate(0, 0, 1, 0)" + STATE));
        EDGES.edge("promise 23, annotate: lost ones count among the twelve", Edges.joined(twelve(),
                "delete(0, 1, 1) = 1", "count(8) = 6", "count(7) = 12", "annotate(0, 0, 1, 0)" + STATE));
        EDGES.edge("promise 23, annotate: the same characters once more", Edges.joined(BOOK,
                "annotate(0, 0, 5, 1) = 0", "annotate(0, 0, 5, 1) = 1", "count(7) = 2"));
        EDGES.edge("promise 23, annotate: it is no edit and no jump", Edges.joined(BOOK, "annotate(0, 0, 5, 1) = 0",
                "count(10) = 0", "count(9) = 0", "count(6) = 0", "undo()" + STATE));
    }

    private static void annotateOrder() {
        EDGES.edge("promise 23, annotate: offsets and color wrong", Edges.joined(BOOK, "annotate(0, 0, 6, 8)" + INDEX,
                "annotate(3, 0, 1, -1)" + INDEX, "annotate(0, 2, 2, 8)" + INDEX));
        EDGES.edge("promise 23, annotate: offsets and color wrong, and twelve annotations", Edges.joined(twelve(),
                "annotate(0, 0, 6, 8)" + INDEX, "annotate(1, 0, 1, 8)" + INDEX));
        EDGES.edge("promise 23, annotate: color wrong, and twelve annotations", Edges.joined(twelve(),
                "annotate(0, 0, 1, 8)" + ARGUMENT, "annotate(0, 0, 1, -1)" + ARGUMENT));
        EDGES.edge("promise 23, annotate: offsets wrong, and twelve annotations", Edges.joined(twelve(),
                "annotate(0, 0, 6, 0)" + INDEX, "annotate(0, 1, 1, 0)" + INDEX));
        EDGES.richEdge("promise 23, annotate: refused in a full state", "annotate(4, 0, 1, 0)" + INDEX,
                "annotate(3, 0, 3, 0)" + INDEX, "annotate(3, 0, 2, 8)" + ARGUMENT, "count(7) = 3");
    }

    // ---- promise 24

    private static void annotationArguments() {
        EDGES.richEdge("promise 24, annotation: the first one", "still annotation(0, 0) = 2",
                "still annotation(0, 3) = 3");
        EDGES.richEdge("promise 24, annotation: just below the first one", "annotation(-1, 0)" + INDEX);
        EDGES.richEdge("promise 24, annotation: the last one", "still annotation(2, 0) = 3",
                "still annotation(2, 3) = 0");
        EDGES.richEdge("promise 24, annotation: just above the last one", "annotation(3, 0)" + INDEX);
        EDGES.edge("promise 24, annotation: there is none", "annotation(0, 0)" + INDEX, "annotation(-1, 0)" + INDEX);
        EDGES.edge("promise 24, annotation: just above twelve", Edges.joined(twelve(), "annotation(11, 4) = 0",
                "annotation(12, 4)" + INDEX));
        EDGES.richEdge("promise 24, annotation: far out", "annotation(" + Edges.LEAST_INT + ", 0)" + INDEX,
                "annotation(" + Edges.GREATEST_INT + ", 0)" + INDEX);
        EDGES.richEdge("promise 24, annotation: just below the least property", "annotation(0, -1)" + ARGUMENT);
        EDGES.richEdge("promise 24, annotation: the greatest property", "still annotation(1, 5) = 0",
                "still annotation(2, 5) = 1");
        EDGES.richEdge("promise 24, annotation: just above the greatest property", "annotation(0, 6)" + ARGUMENT);
        EDGES.richEdge("promise 24, annotation: properties far out",
                "annotation(0, " + Edges.LEAST_INT + ")" + ARGUMENT,
                "annotation(0, " + Edges.GREATEST_INT + ")" + ARGUMENT);
        EDGES.richEdge("promise 24, annotation: annotation and property wrong", "annotation(-1, -1)" + INDEX,
                "annotation(3, 6)" + INDEX);
    }

    private static void annotationProperties() {
        EDGES.richEdge("promise 24, annotation: all properties of a lost one", "annotation(0, 0) = 2",
                "annotation(0, 1) = 0", "annotation(0, 2) = 0", "annotation(0, 3) = 3", "annotation(0, 4) = 1",
                "annotation(0, 5) = -1");
        EDGES.richEdge("promise 24, annotation: all properties of one that is not lost", "annotation(1, 0) = 1",
                "annotation(1, 1) = 0", "annotation(1, 2) = 4", "annotation(1, 3) = 7", "annotation(1, 4) = 0",
                "annotation(1, 5) = 0");
        EDGES.edge("promise 24, annotation: one with a single character left is not lost", "type ab cd", "load() = 1",
                "annotate(0, 1, 5, 2) = 0", "delete(0, 1, 1) = 1", "annotation(0, 1) = 1", "annotation(0, 2) = 2",
                "annotation(0, 4) = 0", "annotation(0, 5) = 0");
        EDGES.edge("promise 24, annotation: a lost one keeps its number and color", "type ab cd", "load() = 1",
                "annotate(0, 0, 1, 5) = 0", "annotate(0, 2, 5, 6) = 1", "annotate(0, 0, 2, 7) = 2",
                "delete(0, 1, 1) = 1", "annotation(0, 4) = 0", "annotation(1, 4) = 1", "annotation(1, 3) = 6",
                "annotation(1, 0) = 0", "annotation(1, 1) = 2", "annotation(1, 2) = 2", "annotation(2, 3) = 7",
                "annotation(2, 4) = 0");
    }

    private static void annotationPages() {
        String[] pages = {"type " + Edges.FOUR_LINES, "load() = 1", "setSize(18, 2) = 2"};
        EDGES.edge("promise 24, annotation: the page of its first character, not of its last one", Edges.joined(pages,
                "annotate(0, 0, 51, 0) = 0", "annotation(0, 5) = 0"));
        EDGES.edge("promise 24, annotation: the page of a blank at the end of a page", Edges.joined(pages,
                "annotate(0, 25, 27, 0) = 0", "annotation(0, 5) = 0"));
        EDGES.edge("promise 24, annotation: the page that begins with its first character", Edges.joined(pages,
                "annotate(0, 26, 27, 0) = 0", "annotation(0, 5) = 1", "setSize(18, 20) = 1", "annotation(0, 5) = 0"));
    }

    // ---- promise 25

    private static void removeAnnotation() {
        EDGES.richEdge("promise 25, removeAnnotation: just below the first one", "removeAnnotation(-1)" + INDEX,
                "count(7) = 3");
        EDGES.richEdge("promise 25, removeAnnotation: just above the last one", "removeAnnotation(3)" + INDEX,
                "count(7) = 3");
        EDGES.richEdge("promise 25, removeAnnotation: far out", "removeAnnotation(" + Edges.LEAST_INT + ")" + INDEX,
                "removeAnnotation(" + Edges.GREATEST_INT + ")" + INDEX);
        EDGES.edge("promise 25, removeAnnotation: there is none", "removeAnnotation(0)" + INDEX,
                "removeAnnotation(-1)" + INDEX);
        EDGES.edge("promise 25, removeAnnotation: the only one", Edges.joined(BOOK, "annotate(0, 0, 1, 0) = 0",
                "removeAnnotation(0) = 0", "count(7) = 0", "annotation(0, 0)" + INDEX, "removeAnnotation(0)" + INDEX));
        EDGES.richEdge("promise 25, removeAnnotation: the first one, a lost one", "removeAnnotation(0) = 2",
                "count(8) = 0", "annotation(0, 3) = 7", "annotation(0, 0) = 1", "annotation(0, 2) = 4",
                "annotation(1, 3) = 0", "annotation(1, 0) = 3", "annotation(2, 0)" + INDEX);
        EDGES.richEdge("promise 25, removeAnnotation: the last one", "removeAnnotation(2) = 2",
                "annotation(0, 3) = 3", "annotation(0, 4) = 1", "annotation(1, 3) = 7", "annotation(2, 0)" + INDEX);
        EDGES.richEdge("promise 25, removeAnnotation: one between others", "removeAnnotation(1) = 2",
                "annotation(0, 3) = 3", "annotation(1, 0) = 3", "annotation(1, 1) = 1", "annotation(1, 2) = 2",
                "annotation(1, 3) = 0", "annotation(1, 4) = 0");
        EDGES.richEdge("promise 25, removeAnnotation: it is no edit", "removeAnnotation(0) = 2", "count(10) = 2",
                "undo() = 1", "count(7) = 3");
    }

    private static void removeFromMany() {
        String[] rows = twelve();
        for (int left = 11; left >= 0; left--) {
            rows = Edges.joined(rows, "annotation(0, 3) = " + (11 - left) % 8, "removeAnnotation(0) = " + left);
        }
        EDGES.edge("promise 25, removeAnnotation: all of twelve, the first one each time",
                Edges.joined(rows, "removeAnnotation(0)" + INDEX));
        EDGES.edge("promise 25, removeAnnotation: the last of twelve", Edges.joined(twelve(),
                "removeAnnotation(11) = 11", "annotation(10, 3) = 2", "annotation(11, 3)" + INDEX));
    }
}
