/** Each question just behind each change: lines and pages are asked for as they are now. */
public final class FreshTest {
    private static final Script SCRIPT = new Script();
    private static final String[][] CHANGES = {
        {"load"}, {"setNote", "2"}, {"removeNote", "1"}, {"setSize", "40", "9"}, {"setStyle", "0", "4"},
        {"setStyle", "1", "0"}, {"setStyle", "2", "2"}, {"setStyle", "3", "0"}, {"setStyle", "4", "0"},
        {"insert", "0", "1"}, {"delete", "1", "0", "2"}, {"split", "1", "1"}, {"join", "0"}, {"undo"},
    };
    private static final String[][] QUESTIONS = {
        {"page", "0", "2"}, {"page", "1", "0"}, {"line", "3", "1"}, {"line", "4", "5"}, {"shown", "0", "1", "4"},
        {"shown", "1", "1", "0"}, {"noteOn", "1", "0"}, {"pageOf", "1", "24"}, {"pageOf", "2", "5"},
        {"floating", "0", "true"}, {"floating", "4", "false"}, {"go", "2", "5"}, {"turn", "true"}, {"turn", "false"},
        {"back"}, {"count", "3"}, {"count", "4"}, {"count", "5"}, {"paragraph", "1", "3"}, {"paragraph", "1", "4"},
        {"annotation", "0", "5"}, {"ifSize", "25", "4", "1"}, {"fit", "2"}, {"fullness"}, {"digest"},
    };

    public static void main(String[] args) {
        for (String[] change : CHANGES) {
            for (String[] question : QUESTIONS) {
                String name = String.join(" ", question) + " just behind " + String.join(" ", change);
                SCRIPT.due(name, asked(change, question, false), asked(change, question, true));
            }
        }
        SCRIPT.end();
    }

    private static String asked(String[] change, String[] question, boolean refreshed) {
        BookPager pager = prepared();
        type(pager, change[0].equals("load") ? "#A|b^3 c|d e f g h|i|j k l m n o" : "some words^2 more");
        pager.digest();
        call(pager, change);
        if (refreshed) {
            pager.digest();
        }
        return call(pager, question);
    }

    private static BookPager prepared() {
        BookPager pager = new BookPager();
        type(pager, "#Of rivers|The river^1 runs past a mill and so on^2|>So it was^1 so it is|x");
        pager.load();
        type(pager, "a mill is a house");
        pager.setNote(1);
        pager.setStyle(3, 1);
        pager.setStyle(4, 1);
        pager.setSize(18, 5);
        pager.split(1, 4);
        pager.annotate(3, 3, 8, 1);
        pager.go(2, 10);
        pager.go(3, 5);
        return pager;
    }

    private static void type(BookPager pager, String text) {
        for (char sign : text.toCharArray()) {
            pager.append(sign);
        }
    }

    private static String call(BookPager pager, String[] row) {
        Object[] arguments = new Object[row.length - 1];
        for (int i = 0; i < arguments.length; i++) {
            boolean truth = row[i + 1].equals("true") || row[i + 1].equals("false");
            arguments[i] = truth ? (Object) Boolean.valueOf(row[i + 1]) : (Object) Integer.valueOf(row[i + 1]);
        }
        return Script.answer(pager, row[0], arguments);
    }
}
