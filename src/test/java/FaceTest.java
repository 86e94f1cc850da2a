import java.io.IOException;
import java.lang.reflect.Constructor;
import java.lang.reflect.Field;
import java.lang.reflect.Method;
import java.lang.reflect.Modifier;
import java.nio.file.Files;
import java.nio.file.Path;
import java.util.HashSet;
import java.util.Set;
import java.util.TreeSet;
import java.util.regex.Pattern;

/** The public face of the class, and those rules of LANGUAGE.md that its file and its members show. */
public final class FaceTest {
    private static final Script SCRIPT = new Script();
    private static final String[] FACE = {
        "int append(int) IllegalArgumentException IllegalStateException",
        "int clearInput()",
        "int firstError(boolean)",
        "int load() IllegalStateException",
        "int setNote(int) IndexOutOfBoundsException IllegalStateException",
        "int removeNote(int) IndexOutOfBoundsException IllegalStateException",
        "int setSize(int,int) IllegalArgumentException",
        "int setStyle(int,int) IllegalArgumentException",
        "int page(int,int) IndexOutOfBoundsException IllegalArgumentException",
        "int line(int,int) IndexOutOfBoundsException IllegalArgumentException",
        "int shown(int,int,int) IndexOutOfBoundsException IllegalArgumentException",
        "int noteOn(int,int) IndexOutOfBoundsException",
        "int pageOf(int,int) IndexOutOfBoundsException",
        "int floating(int,boolean) IndexOutOfBoundsException",
        "int go(int,int) IndexOutOfBoundsException",
        "int turn(boolean)",
        "int back() IllegalStateException",
        "int find(boolean) IllegalStateException",
        "int count(int) IllegalArgumentException",
        "int paragraph(int,int) IndexOutOfBoundsException IllegalArgumentException",
        "int letter(int,int) IndexOutOfBoundsException",
        "int annotate(int,int,int,int) IndexOutOfBoundsException IllegalArgumentException IllegalStateException",
        "int annotation(int,int) IndexOutOfBoundsException IllegalArgumentException",
        "int removeAnnotation(int) IndexOutOfBoundsException",
        "int insert(int,int) IndexOutOfBoundsException IllegalStateException",
        "int delete(int,int,int) IndexOutOfBoundsException IllegalStateException",
        "int split(int,int) IndexOutOfBoundsException IllegalStateException",
        "int join(int) IndexOutOfBoundsException IllegalStateException",
        "int undo() IllegalStateException",
        "int ifSize(int,int,int) IllegalArgumentException",
        "int fit(int) IllegalArgumentException",
        "double fullness()",
        "long digest()",
    };
    private static final String[] FORBIDDEN = {
        "->", "::", "\\bcatch\\b", "\\bfinally\\b", "\\bsynchronized\\b", "\\bassert\\b", "\\bimport\\b",
        "\\bpackage\\b", "Exact\\(", "\\bstatic \\{", "\\binstanceof\\b", "[^\\x00-\\x7f]",
    };

    public static void main(String[] args) throws IOException {
        members();
        names();
        sizes();
        text();
        SCRIPT.end();
    }

    private static void members() {
        Class<?> face = BookPager.class;
        SCRIPT.due("modifiers", face.getModifiers(), Modifier.PUBLIC | Modifier.FINAL);
        Set<String> shown = new TreeSet<>();
        for (Method method : face.getDeclaredMethods()) {
            if (!Modifier.isPrivate(method.getModifiers())) {
                SCRIPT.due(method + " is public alone", method.getModifiers(), Modifier.PUBLIC);
                shown.add(told(method));
            }
        }
        SCRIPT.due("methods", shown, new TreeSet<>(Set.of(FACE)));
        for (Field field : face.getDeclaredFields()) {
            if (!Modifier.isPrivate(field.getModifiers())) {
                SCRIPT.due("a field", field.toString(), "public static final int BookPager.NONE");
            }
            if (Modifier.isStatic(field.getModifiers())) {
                SCRIPT.due(field + " is final", Modifier.isFinal(field.getModifiers()), true);
            }
        }
        Constructor<?>[] constructors = face.getDeclaredConstructors();
        SCRIPT.due("constructors", constructors.length, 1);
        SCRIPT.due("constructor", constructors[0].toString(), "public BookPager()");
        for (Class<?> inside : face.getDeclaredClasses()) {
            SCRIPT.due(inside + " is static", Modifier.isStatic(inside.getModifiers()), true);
            SCRIPT.due(inside + " is private", Modifier.isPrivate(inside.getModifiers()), true);
        }
    }

    private static String told(Method method) {
        StringBuilder told = new StringBuilder(method.getReturnType() + " " + method.getName() + "(");
        for (Class<?> type : method.getParameterTypes()) {
            told.append(told.charAt(told.length() - 1) == '(' ? "" : ",").append(type);
        }
        told.append(")");
        for (Class<?> type : method.getExceptionTypes()) {
            told.append(" ").append(type.getSimpleName());
        }
        return told.toString();
    }

    private static void names() {
        Set<String> names = new HashSet<>();
        for (String row : FACE) {
            names.add(row.substring(row.indexOf(' ') + 1, row.indexOf('(')));
        }
        for (Method method : BookPager.class.getDeclaredMethods()) {
            boolean hidden = Modifier.isPrivate(method.getModifiers());
            SCRIPT.due(method + " has a name of its own", hidden && names.contains(method.getName()), false);
        }
        for (Class<?> inside : BookPager.class.getDeclaredClasses()) {
            for (Method method : inside.getDeclaredMethods()) {
                SCRIPT.due(method + " has a name of its own", names.contains(method.getName()), false);
            }
        }
    }

    private static void sizes() {
        SCRIPT.due("at most twelve classes", BookPager.class.getDeclaredClasses().length <= 12, true);
        for (Class<?> inside : BookPager.class.getDeclaredClasses()) {
            SCRIPT.due(inside + " has few fields", inside.getDeclaredFields().length <= 20, true);
            for (Method method : inside.getDeclaredMethods()) {
                SCRIPT.due(method + " has few parameters", method.getParameterCount() <= 7, true);
            }
        }
    }

    private static void text() throws IOException {
        String text = Files.readString(Path.of("src/main/java/BookPager.java"));
        for (String forbidden : FORBIDDEN) {
            SCRIPT.due("the file has " + forbidden, Pattern.compile(forbidden).matcher(text).find(), false);
        }
    }
}
