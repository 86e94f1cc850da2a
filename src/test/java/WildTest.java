import java.lang.reflect.InvocationTargetException;
import java.lang.reflect.Method;
import java.util.ArrayList;
import java.util.Arrays;
import java.util.Comparator;
import java.util.List;
import java.util.Random;

/**
 * Calls with any arguments in any state, far more than an object is promised to stand: each one answers
 * or throws one of its own exceptions, of exactly that class, and one that throws changes nothing.
 */
public final class WildTest {
    private static final int RUNS = 60;
    private static final int CALLS = 3000;
    private static final int[] EDGES = {
        Integer.MIN_VALUE, Integer.MIN_VALUE + 1, -1000, -2, -1, 0, 1, 2, 3, 9, 10, 11, 12, 23, 24, 25, 100, 240, 358,
        359, 360, 1000, 65536, Integer.MAX_VALUE - 1, Integer.MAX_VALUE};

    private final Random random;
    private final List<Method> calls = new ArrayList<>();
    private final BookPager pager = new BookPager();
    private int wrong;

    private WildTest(long seed) {
        random = new Random(seed);
        for (Method method : BookPager.class.getMethods()) {
            if (method.getDeclaringClass() == BookPager.class) {
                calls.add(method);
            }
        }
        // the first one is append, which every other call is
        calls.sort(Comparator.comparing((Method method) -> !method.getName().equals("append"))
                .thenComparing(Method::getName));
    }

    public static void main(String[] args) throws IllegalAccessException {
        int wrong = 0;
        for (int run = 1; run <= RUNS && wrong == 0; run++) {
            WildTest test = new WildTest(run);
            if (run % 3 == 0) {
                test.fill(run % 2 == 0);
            }
            for (int call = 0; call < CALLS && test.wrong == 0; call++) {
                test.step();
            }
            wrong += test.wrong;
        }
        System.out.println(wrong == 0 ? "all answers are as due" : wrong + " answers are not as due");
        if (wrong != 0) {
            System.exit(1);
        }
    }

    private void type(String text) {
        pager.clearInput();
        for (char sign : text.toCharArray()) {
            pager.append(sign);
        }
    }

    /** Makes the greatest book that there is: ten paragraphs of twenty-four words of fourteen characters. */
    private void fill(boolean withNotes) {
        String word = "abcdefghijkl^";
        type("a|b|c|d|e|f|g|h|i|j");
        pager.load();
        for (int paragraph = 0; paragraph < 10; paragraph++) {
            for (int many = 0; many < 23; many++) {
                type(word + many % 10);
                pager.insert(paragraph, many);
            }
            pager.delete(paragraph, 23, 1);
            type(word + paragraph);
            pager.insert(paragraph, 23);
            due("the length of a full paragraph", pager.paragraph(paragraph, 2), 359);
        }
        for (int note = 0; note < 10 && withNotes; note++) {
            type(String.join(" ", new String[] {word + 1, word + 2, word + 3, word + 4, word + 5, word + 6}));
            pager.setNote(note);
        }
        pager.setStyle(4, withNotes ? 1 : 0);
        pager.setStyle(2, 2);
        pager.setSize(18, 2);
        due("the number of lines", pager.count(3), 240);
        due("the number of characters", pager.count(2), 3590);
    }

    private void due(String name, int got, int want) {
        if (got != want) {
            wrong++;
            System.out.println(name + ": answered " + got + ", due is " + want);
        }
    }

    private int wildNumber() {
        return random.nextInt(3) == 0 ? EDGES[random.nextInt(EDGES.length)] : random.nextInt(26) - 1;
    }

    private int sign() {
        String signs = "aaabbc.Z09'    ^1^2|#>-";
        return random.nextInt(50) == 0 ? wildNumber() : signs.charAt(random.nextInt(signs.length()));
    }

    private void step() throws IllegalAccessException {
        Method method = calls.get(random.nextInt(2) == 0 ? 0 : random.nextInt(calls.size()));
        Object[] arguments = new Object[method.getParameterCount()];
        for (int i = 0; i < arguments.length; i++) {
            boolean truth = method.getParameterTypes()[i] == boolean.class;
            arguments[i] = truth ? (Object) random.nextBoolean() : (Object) wildNumber();
        }
        if (method.getName().equals("append")) {
            arguments[0] = sign();
        }
        long before = pager.digest();
        try {
            Object answer = method.invoke(pager, arguments);
            if (answer instanceof Double && ((Double) answer).isNaN()) {
                tell(method, arguments, "NaN");
            }
        } catch (InvocationTargetException e) {
            boolean due = Arrays.asList(method.getExceptionTypes()).contains(e.getCause().getClass());
            if (!due || pager.digest() != before) {
                e.getCause().printStackTrace(System.out);
                tell(method, arguments, "an exception that is not due, or a change with an exception");
            }
        }
    }

    private void tell(Method method, Object[] arguments, String what) {
        wrong++;
        System.out.println(method.getName() + Arrays.toString(arguments) + ": " + what);
    }
}
