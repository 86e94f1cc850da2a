import java.lang.reflect.InvocationTargetException;
import java.lang.reflect.Method;
import java.util.Arrays;
import java.util.HashMap;
import java.util.Map;
import java.util.Random;

/** Long runs of calls, the same ones each time, answered by BookPager and by PlainPager. */
public final class ModelTest {
    private static final int RUNS = 300;
    private static final int STEPS = 120;
    private static final String[] WORDS = {
        "a", "b", "to", "it", "mill", "river", "abcdefghijkl", "a^1", "b^2", "it^1", "so^3", "abcdefghijkl^9", "x^0",
        "'s.", "9,", "Abc", "word^4", "ABCDEFGHIJ"};

    private final Random random;
    private final BookPager pager = new BookPager();
    private final PlainPager model = new PlainPager();
    private final Map<String, Method> pagerCalls = new HashMap<>();
    private final Map<String, Method> modelCalls = new HashMap<>();
    private final StringBuilder story = new StringBuilder();
    private int wrong;

    private ModelTest(long seed) {
        random = new Random(seed);
        for (Method method : BookPager.class.getMethods()) {
            pagerCalls.put(method.getName(), method);
        }
        for (Method method : PlainPager.class.getDeclaredMethods()) {
            if (pagerCalls.containsKey(method.getName()) && !method.isSynthetic()) {
                modelCalls.put(method.getName(), method);
            }
        }
    }

    public static void main(String[] args) {
        int runs = args.length > 0 ? Integer.parseInt(args[0]) : RUNS;
        int from = args.length > 1 ? Integer.parseInt(args[1]) : 1;
        int wrong = 0;
        for (int run = from; run < from + runs && wrong == 0; run++) {
            ModelTest test = new ModelTest(run);
            test.play();
            wrong += test.wrong;
        }
        System.out.println(wrong == 0 ? "all answers are as due" : wrong + " answers are not as due");
        if (wrong != 0) {
            System.exit(1);
        }
    }

    private static String told(Method method, Object object, Object... arguments) {
        try {
            return String.valueOf(method.invoke(object, arguments));
        } catch (InvocationTargetException e) {
            return "throws " + e.getCause().getClass().getSimpleName();
        } catch (IllegalAccessException e) {
            throw new AssertionError(e);
        }
    }

    private String call(String name, Object... arguments) {
        String got = told(pagerCalls.get(name), pager, arguments);
        String want = told(modelCalls.get(name), model, arguments);
        String told = name + Arrays.toString(arguments) + " = " + got;
        story.append(told).append('\n');
        if (!got.equals(want) && wrong == 0) {
            wrong++;
            System.out.println(story + "due is " + want);
        }
        return got;
    }

    private int number(String name, Object... arguments) {
        return Integer.parseInt(call(name, arguments));
    }

    /** Mostly a number below a limit, now and then one at its edge or far out. */
    private int about(int limit) {
        switch (random.nextInt(24)) {
            case 0:
                return -1;
            case 1:
                return limit;
            case 2:
                return limit + 1;
            case 3:
                return random.nextBoolean() ? Integer.MAX_VALUE : Integer.MIN_VALUE;
            default:
                return limit > 0 ? random.nextInt(limit) : 0;
        }
    }

    private void play() {
        typeBook();
        call("load");
        call("setSize", 18 + random.nextInt(20), 2 + random.nextInt(9));
        for (int step = 0; step < STEPS && wrong == 0; step++) {
            step();
            if (step % 8 == 0) {
                call("digest");
            }
        }
        showAll();
    }

    private void type(String text) {
        for (char sign : text.toCharArray()) {
            call("append", (int) sign);
        }
    }

    private String words(int most) {
        StringBuilder text = new StringBuilder(WORDS[random.nextInt(WORDS.length)]);
        int more = random.nextInt(most);
        for (int i = 0; i < more; i++) {
            text.append(' ').append(WORDS[random.nextInt(WORDS.length)]);
        }
        return text.toString();
    }

    private void typeBook() {
        call("clearInput");
        StringBuilder text = new StringBuilder();
        int paragraphs = 1 + random.nextInt(11);
        for (int i = 0; i < paragraphs; i++) {
            String kind = new String[] {"", "", "#", ">"}[random.nextInt(4)];
            text.append(i > 0 ? "|" : "").append(kind).append(words(30 / paragraphs + 1));
        }
        type(spoiled(text.substring(0, Math.min(100, text.length()))));
        call("firstError", true);
        call("firstError", false);
    }

    private void typeWords() {
        call("clearInput");
        String text = words(random.nextInt(4) == 0 ? 14 : 4);
        type(spoiled(text.substring(0, Math.min(100, text.length()))));
        call("firstError", false);
        call("firstError", true);
    }

    private String spoiled(String text) {
        if (random.nextInt(12) != 0) {
            return text;
        }
        String signs = " |#>^1a-'";
        StringBuilder changed = new StringBuilder(text);
        changed.setCharAt(random.nextInt(text.length()), signs.charAt(random.nextInt(signs.length())));
        return changed.toString();
    }

    private void step() {
        int paragraphs = number("count", 0);
        int paragraph = about(paragraphs);
        boolean exists = paragraph >= 0 && paragraph < paragraphs;
        int words = exists ? number("paragraph", paragraph, 1) : 1;
        int length = exists ? number("paragraph", paragraph, 2) : 1;
        switch (random.nextInt(16)) {
            case 0:
                call("setSize", random.nextInt(10) == 0 ? about(70) : 18 + random.nextInt(12),
                        random.nextInt(10) == 0 ? about(25) : 2 + random.nextInt(8));
                break;
            case 1:
                call("setStyle", about(5), about(random.nextBoolean() ? 2 : 4));
                break;
            case 2:
                call("go", paragraph, about(length));
                break;
            case 3:
                call("turn", random.nextBoolean());
                call("back");
                break;
            case 4:
            case 5:
                int from = about(length);
                int size = length > from ? 1 + about(length - from) : about(2);
                call("annotate", paragraph, from, from + size, about(8));
                break;
            case 6:
            case 7:
                typeWords();
                call("find", random.nextBoolean());
                call("insert", paragraph, random.nextInt(3) == 0 ? words : about(words + 1));
                break;
            case 8:
                int word = about(words);
                int many = random.nextInt(3) == 0 ? words - word : 1 + about(3);
                call("delete", paragraph, word, many);
                break;
            case 9:
                splitNearReader(paragraph, length, about(words));
                break;
            case 10:
                call("join", about(paragraphs - 1));
                break;
            case 11:
                call("undo");
                break;
            case 12:
                typeWords();
                call(random.nextInt(4) == 0 ? "removeNote" : "setNote", about(10));
                break;
            case 13:
                call("removeAnnotation", about(number("count", 7)));
                break;
            default:
                ask();
        }
    }

    /** Mostly with the reader just where the paragraph is split, where the rules are closest. */
    private void splitNearReader(int paragraph, int length, int word) {
        int offset = 0;
        for (int blanks = 0; offset < length && random.nextInt(40) > 0; offset++) {
            blanks += call("letter", paragraph, offset).equals("32") ? 1 : 0;
            if (blanks == word) {
                break;
            }
        }
        call("go", paragraph, offset + random.nextInt(2));
        call("go", paragraph, offset);
        call("split", paragraph, word);
        call("count", 6);
        call("digest");
    }

    private void ask() {
        int paragraph = about(number("count", 0));
        int page = about(number("count", 4));
        int line = about(number("count", 3));
        call("count", about(12));
        call("page", page, about(7));
        call("line", line, about(6));
        call("shown", page, about(8), about(30));
        call("noteOn", page, about(2));
        call("floating", line, random.nextBoolean());
        call("pageOf", paragraph, about(20));
        call("letter", paragraph, about(20));
        call("paragraph", paragraph, about(5));
        call("annotation", about(number("count", 7)), about(6));
        call("ifSize", 18 + about(43), 2 + about(19), about(3));
        call("fullness");
        if (random.nextInt(4) == 0) {
            call("fit", about(6));
        }
        if (random.nextInt(20) == 0) {
            typeBook();
            call("load");
        }
    }

    private void showAll() {
        int pages = number("count", 4);
        for (int page = 0; page < pages && wrong == 0; page++) {
            for (int row = 0; row < 20; row++) {
                for (int column = 0; column < 20; column++) {
                    call("shown", page, row, column);
                }
            }
        }
    }
}
