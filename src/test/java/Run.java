import java.util.ArrayList;
import java.util.List;

/**
 * One object and the calls that are made on it: never more than the document lets an object stand, so that
 * no test asks for an answer that is free.
 */
final class Run {
    static final int MOST_CALLS = 512;
    private static final int NOTES = 10;
    private static final int JUMPS = 5;
    private static final int EDITS = 4;

    private final BookPager pager = new BookPager();
    private int calls;

    /** Plays the first rows on a new object. */
    static Run of(String[] rows, int many) {
        Run run = new Run();
        for (int row = 0; row < many; row++) {
            run.play(rows[row]);
        }
        return run;
    }

    static int callsOf(String[] rows) {
        int calls = 0;
        for (String row : rows) {
            calls += row.startsWith("type ") ? row.length() - 5 : 1;
        }
        return calls;
    }

    /** Plays a row; answers what the call answered, and what is due by the row. */
    String[] play(String row) {
        if (row.startsWith("type ")) {
            type(row.substring(5));
            return new String[] {"", ""};
        }
        String plain = row.startsWith("still ") ? row.substring(6) : row;
        int equals = plain.lastIndexOf(" = ");
        return new String[] {ask(plain.substring(0, equals)), plain.substring(equals + 3)};
    }

    String ask(String call) {
        calls++;
        if (calls > MOST_CALLS) {
            throw new AssertionError("more calls than an object stands, at " + call);
        }
        return Script.answerTo(pager, call);
    }

    int number(String call) {
        return Integer.parseInt(ask(call));
    }

    void type(String text) {
        for (char sign : text.toCharArray()) {
            ask("append(" + (int) sign + ")");
        }
    }

    /**
     * All that can be seen of an object that has played the first rows: the digest, and what the digest does
     * not tell, which is where the jumps lead, what each undo brings back, and the texts of the notes. Each
     * look is a new object's, since some of them change what they look at.
     */
    static List<String> seen(String[] rows, int many) {
        List<String> seen = new ArrayList<>();
        for (int undone = 0; undone <= EDITS; undone++) {
            Run run = of(rows, many);
            for (int edit = 0; edit < undone; edit++) {
                seen.add("undo " + run.ask("undo()"));
            }
            seen.add("digest " + run.ask("digest()"));
            for (int jump = 0; jump < JUMPS; jump++) {
                seen.add("back " + run.ask("back()") + " to " + run.ask("count(6)"));
            }
        }
        for (int note = 0; note < NOTES; note++) {
            String words = of(rows, many).ask("removeNote(" + note + ")");
            seen.add("note " + note + ": " + words);
            if (!words.startsWith("throws")) {
                seen.add(of(rows, many).textOfNote(note));
            }
        }
        return seen;
    }

    private String textOfNote(int note) {
        ask("clearInput()");
        type("a^" + note);
        ask("load()");
        ask("setStyle(4, 1)");
        ask("setSize(60, 20)");
        int rows = number("page(0, 4)");
        StringBuilder text = new StringBuilder();
        for (int row = 20 - rows + 1; row < 20; row++) {
            for (int column = 0; column < 60; column++) {
                text.append((char) number("shown(0, " + row + ", " + column + ")"));
            }
        }
        return text.toString();
    }
}
