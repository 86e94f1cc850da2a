import java.lang.reflect.InvocationTargetException;
import java.lang.reflect.Method;
import java.util.ArrayList;
import java.util.HashMap;
import java.util.List;
import java.util.Map;

/**
 * Runs of calls written as the document writes them: "append(97) = 1", or
 * "pageOf(0, 1) = throws IndexOutOfBoundsException"; "type ab cd" appends each character of "ab cd".
 */
final class Script {
    private static final Map<String, Method> CALLS = calls();

    private int wrong;

    /** Plays the rows on a new object, once as they stand and once with a digest round each call. */
    void run(String name, String... rows) {
        play(name, false, rows);
        play(name + " (with digests)", true, rows);
    }

    /** Ends the test: with exit code 1 if an answer was not the one that is due. */
    void end() {
        System.out.println(wrong == 0 ? "all answers are as due" : wrong + " answers are not as due");
        if (wrong != 0) {
            System.exit(1);
        }
    }

    void due(String name, Object got, Object want) {
        if (!want.equals(got)) {
            wrong++;
            System.out.println(name + ": answered " + got + ", due is " + want);
        }
    }

    private void play(String name, boolean digests, String... rows) {
        BookPager pager = new BookPager();
        for (int row = 0; row < rows.length; row++) {
            String where = name + ", row " + row + ": ";
            if (rows[row].startsWith("type ")) {
                for (char sign : rows[row].substring(5).toCharArray()) {
                    pager.append(sign);
                }
                continue;
            }
            int equals = rows[row].lastIndexOf(" = ");
            String call = rows[row].substring(0, equals);
            String want = rows[row].substring(equals + 3);
            long before = digests ? pager.digest() : 0;
            due(where + call, answerTo(pager, call), want);
            if (digests && want.startsWith("throws ")) {
                due(where + call + " changes nothing", pager.digest(), before);
            }
        }
    }

    /** The answer of a call that is written as in the document. */
    static String answerTo(BookPager pager, String call) {
        int open = call.indexOf('(');
        String name = call.substring(0, open);
        String inside = call.substring(open + 1, call.length() - 1);
        List<Object> arguments = new ArrayList<>();
        for (String part : inside.isEmpty() ? new String[0] : inside.split(", ")) {
            boolean truth = part.equals("true") || part.equals("false");
            arguments.add(truth ? (Object) Boolean.valueOf(part) : (Object) Integer.valueOf(part));
        }
        return answer(pager, name, arguments.toArray());
    }

    /** The answer of a call as a text; the class of an exception is told exactly. */
    static String answer(BookPager pager, String name, Object... arguments) {
        Method method = CALLS.get(name);
        if (method == null) {
            throw new AssertionError("there is no call " + name);
        }
        return answer(pager, method, arguments);
    }

    private static Map<String, Method> calls() {
        Map<String, Method> calls = new HashMap<>();
        for (Method method : BookPager.class.getMethods()) {
            if (method.getDeclaringClass() == BookPager.class) {
                calls.put(method.getName(), method);
            }
        }
        return calls;
    }

    private static String answer(BookPager pager, Method method, Object... arguments) {
        try {
            return String.valueOf(method.invoke(pager, arguments));
        } catch (InvocationTargetException e) {
            return "throws " + e.getCause().getClass().getSimpleName();
        } catch (IllegalAccessException e) {
            throw new AssertionError(e);
        }
    }
}
