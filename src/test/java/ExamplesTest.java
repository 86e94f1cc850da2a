/** The four examples of the document's section "Terms", call by call. */
public final class ExamplesTest {
    public static void main(String[] args) {
        Script script = new Script();
        script.run("example 1",
                "append(97) = 1", "append(98) = 2", "append(32) = 3", "append(99) = 4", "append(100) = 5",
                "load() = 1", "annotate(0, 0, 5, 1) = 0", "split(0, 1) = 2", "annotation(0, 2) = 2",
                "join(0) = 2", "annotation(0, 2) = 2", "undo() = 1", "paragraph(1, 2) = 2");
        script.run("example 2",
                "append(35) = 1", "append(65) = 2", "append(124) = 3", "append(98) = 4", "append(94) = 5",
                "append(49) = 6", "firstError(true) = 6", "firstError(false) = 0", "load() = 2",
                "line(1, 3) = 5", "shown(0, 1, 2) = 98", "page(0, 5) = 1");
        script.run("example 3",
                "letter(0, 0) = 97", "count(4) = 1", "turn(true) = -1",
                "pageOf(0, 1) = throws IndexOutOfBoundsException",
                "delete(0, 0, 1) = throws IllegalStateException", "floating(0, false) = -1",
                "setSize(17, 4) = throws IllegalArgumentException", "setSize(18, 2) = 1",
                "shown(0, 0, 2) = 97", "shown(0, 0, 3) = 32");
        script.run("example 4",
                "append(97) = 1", "append(32) = 2", "append(98) = 3", "load() = 1", "go(0, 2) = 0",
                "delete(0, 1, 1) = 1", "count(6) = 0", "back() = 0", "count(6) = 0", "undo() = 0",
                "count(6) = 2");
        script.end();
    }
}
