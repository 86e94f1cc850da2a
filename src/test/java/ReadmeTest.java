import java.io.ByteArrayOutputStream;
import java.io.IOException;
import java.io.PrintStream;
import java.lang.reflect.Method;
import java.nio.charset.StandardCharsets;
import java.nio.file.Files;
import java.nio.file.Path;
import java.util.ArrayList;
import java.util.List;
import java.util.Set;
import java.util.TreeSet;
import java.util.regex.Matcher;
import java.util.regex.Pattern;

/**
 * What README.md says of answers: each of its calls is made, in its order, and must answer what stands behind
 * it; its program is the file Tour.java and must print what it says; each call of the face has an answer there.
 */
public final class ReadmeTest {
    private static final String NEW = "BookPager pager = new BookPager();";
    private static final Pattern TYPE = Pattern.compile("type\\(pager, \"(.*)\"\\);");
    private static final Pattern CALL = Pattern.compile("pager\\.((\\w+)\\(.*?\\)); +// (throws \\w+|[^ :]+)(: .*)?");

    private final Script script = new Script();
    private final Set<String> answered = new TreeSet<>();
    private Run run;

    public static void main(String[] args) throws IOException {
        new ReadmeTest().check(Files.readAllLines(Path.of("README.md")));
    }

    private void check(List<String> readme) throws IOException {
        List<String> program = Files.readAllLines(Path.of("src/test/java/Tour.java"));
        int programs = 0;
        int prints = 0;
        for (int line = 0; line < readme.size(); line++) {
            if (readme.get(line).equals("```java")) {
                List<String> block = blockFrom(readme, line + 1);
                if (block.equals(program)) {
                    programs++;
                } else {
                    play(block, line + 2);
                }
            } else if (readme.get(line).equals("```text")) {
                script.due("README.md, what Tour prints", blockFrom(readme, line + 1), printed());
                prints++;
            }
        }
        script.due("README.md has Tour.java as it is", programs, 1);
        script.due("README.md has what Tour prints", prints, 1);
        script.due("calls with an answer in README.md", answered, face());
        script.end();
    }

    private static List<String> blockFrom(List<String> readme, int first) {
        List<String> block = new ArrayList<>();
        for (int line = first; line < readme.size() && !readme.get(line).equals("```"); line++) {
            block.add(readme.get(line));
        }
        return block;
    }

    private static List<String> printed() {
        PrintStream before = System.out;
        ByteArrayOutputStream bytes = new ByteArrayOutputStream();
        System.setOut(new PrintStream(bytes, true, StandardCharsets.UTF_8));
        Tour.main(new String[0]);
        System.setOut(before);
        return bytes.toString(StandardCharsets.UTF_8).lines().toList();
    }

    /** Each block begins with a new object; a row that is none of the known ones is a fault. */
    private void play(List<String> block, int firstNumber) {
        run = null;
        for (int row = 0; row < block.size(); row++) {
            String where = "README.md, line " + (firstNumber + row) + ": " + block.get(row);
            script.due(where + ": the block begins with a new object", block.get(row).equals(NEW), row == 0);
            if (row == 0) {
                run = new Run();
            } else {
                playRow(where, block.get(row));
            }
        }
    }

    private void playRow(String where, String row) {
        Matcher type = TYPE.matcher(row);
        Matcher call = CALL.matcher(row);
        if (type.matches()) {
            run.type(type.group(1));
        } else if (call.matches()) {
            answered.add(call.group(2));
            script.due(where, run.ask(call.group(1)), call.group(3));
        } else {
            script.due(where + " is a row that can be played", false, true);
        }
    }

    private static Set<String> face() {
        Set<String> face = new TreeSet<>();
        for (Method method : BookPager.class.getMethods()) {
            if (method.getDeclaringClass() == BookPager.class) {
                face.add(method.getName());
            }
        }
        return face;
    }
}
