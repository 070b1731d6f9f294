import java.lang.reflect.Constructor;
import java.lang.reflect.Field;
import java.lang.reflect.Method;
import java.lang.reflect.Modifier;
import java.nio.file.Files;
import java.nio.file.Path;
import java.util.Arrays;
import java.util.List;
import java.util.TreeSet;
import java.util.regex.Matcher;
import java.util.regex.Pattern;

/** The public face of the document, and those rules of LANGUAGE.md that can be told from the file's text. */
public final class FaceTest {
    private static final List<String> FACE = List.of(
        "int feed(int, int, int, int, int)", "boolean end(int)",
        "void ground(int, int, int) IndexOutOfBoundsException IllegalArgumentException",
        "int height(int) IndexOutOfBoundsException", "boolean sees(int, int) IndexOutOfBoundsException",
        "int gun(int, int, int, int) IllegalArgumentException UnsupportedOperationException",
        "void day(int) IllegalArgumentException", "int law() IllegalArgumentException UnsupportedOperationException",
        "int fault()",
        "int person(int, int, int, int) IndexOutOfBoundsException IllegalArgumentException UnsupportedOperationException",
        "int look(int, int) IndexOutOfBoundsException NoSuchElementException", "void seed(int)",
        "int run(int) IllegalArgumentException",
        "int found(int, int, int) IndexOutOfBoundsException IllegalArgumentException UnsupportedOperationException",
        "int other(int, int, int, int) IndexOutOfBoundsException IllegalArgumentException UnsupportedOperationException",
        "int about(int, int) IndexOutOfBoundsException NoSuchElementException",
        "void when(int, int, int) IndexOutOfBoundsException IllegalArgumentException",
        "void machine(int, int) IllegalArgumentException", "int walk(int) IndexOutOfBoundsException", "int next()",
        "int needed(int, int) IndexOutOfBoundsException",
        "int same(int, int, int) IndexOutOfBoundsException IllegalArgumentException NoSuchElementException",
        "int later(int) NoSuchElementException", "int way(int, int) IndexOutOfBoundsException NoSuchElementException",
        "int held(int, int, int, boolean) IndexOutOfBoundsException IllegalArgumentException",
        "int heaps(int, boolean) IllegalArgumentException",
        "int length(int, int, int, boolean) IndexOutOfBoundsException IllegalArgumentException",
        "int still(int, int) IndexOutOfBoundsException",
        "int teller(int, int, int, int) IndexOutOfBoundsException IllegalArgumentException UnsupportedOperationException",
        "int tells(int, int, int) IndexOutOfBoundsException IllegalArgumentException UnsupportedOperationException",
        "boolean could(int, boolean) IndexOutOfBoundsException", "boolean talked(int, int) IndexOutOfBoundsException",
        "int apart()", "int who(int) IndexOutOfBoundsException IllegalArgumentException",
        "int joined(int, int, int, int, boolean) IndexOutOfBoundsException",
        "int story(int) IllegalArgumentException UnsupportedOperationException",
        "boolean holds(int) IndexOutOfBoundsException", "int odds(int) IndexOutOfBoundsException", "void image()",
        "boolean back()", "int count(int)");

    public static void main(String[] args) throws Exception {
        face();
        classesInside();
        text();
        Check.finish("FaceTest");
    }

    private static String told(Method m) {
        StringBuilder s = new StringBuilder(m.getReturnType().getSimpleName()).append(' ').append(m.getName()).append('(');
        for (Class<?> type : m.getParameterTypes()) {
            s.append(s.charAt(s.length() - 1) == '(' ? "" : ", ").append(type.getSimpleName());
        }
        s.append(')');
        for (Class<?> type : m.getExceptionTypes()) {
            s.append(' ').append(type.getSimpleName());
        }
        return s.toString();
    }

    private static void face() throws Exception {
        Class<?> c = GrassField.class;
        Check.yes("public and final", Modifier.isPublic(c.getModifiers()) && Modifier.isFinal(c.getModifiers()));
        TreeSet<String> methods = new TreeSet<>();
        for (Method m : c.getDeclaredMethods()) {
            if (!Modifier.isPrivate(m.getModifiers())) {
                Check.yes(m.getName() + " is public and no static one",
                    Modifier.isPublic(m.getModifiers()) && !Modifier.isStatic(m.getModifiers()));
                methods.add(told(m));
            } else {
                Check.no(m.getName() + " is a name of the face", isOfFace(m.getName()));
            }
        }
        TreeSet<String> due = new TreeSet<>(FACE);
        due.removeAll(methods);
        methods.removeAll(new TreeSet<>(FACE));
        Check.yes("missing: " + due + ", too many: " + methods, due.isEmpty() && methods.isEmpty());
        Constructor<?>[] constructors = c.getDeclaredConstructors();
        Check.yes("one public constructor without arguments", constructors.length == 1
            && Modifier.isPublic(constructors[0].getModifiers()) && constructors[0].getParameterCount() == 0);
        for (Field f : c.getDeclaredFields()) {
            boolean isNone = f.getName().equals("NONE");
            Check.yes("field " + f.getName(), isNone ? Modifier.isPublic(f.getModifiers()) : Modifier.isPrivate(f.getModifiers()));
        }
        Check.is("NONE", GrassField.NONE, -1);
    }

    private static boolean isOfFace(String name) {
        return FACE.stream().anyMatch(f -> f.contains(" " + name + "("));
    }

    private static void classesInside() {
        Class<?>[] inside = GrassField.class.getDeclaredClasses();
        Check.yes("some twelve classes", inside.length <= 12);
        for (Class<?> c : inside) {
            Check.yes(c + " is private and static", Modifier.isPrivate(c.getModifiers()) && Modifier.isStatic(c.getModifiers()));
            for (Method m : c.getDeclaredMethods()) {
                Check.no(c + "." + m.getName() + " is a name of the face", isOfFace(m.getName()));
                Check.yes(m + " has at most seven parameters", m.getParameterCount() <= 7);
            }
            long fields = Arrays.stream(c.getDeclaredFields()).filter(f -> !Modifier.isStatic(f.getModifiers())).count();
            Check.yes(c + " has some twenty fields", fields <= 20);
        }
    }

    private static void text() throws Exception {
        String source = Files.readString(Path.of("src/main/java/GrassField.java"));
        String code = source.replaceAll("(?s)/\\*.*?\\*/", "").replaceAll("//.*", "").replaceAll("\"[^\"]*\"", "\"\"");
        String[] none = {"\\bpackage\\b", "->", "::", "\\btry\\b", "\\bcatch\\b", "\\bfinally\\b", "\\bassert\\b",
            "\\bsynchronized\\b", "Exact\\b", "\\bnative\\b", "\\bwhile\\s*\\(\\s*true", "\\bdouble\\b", "\\bfloat\\b",
            "System\\.(?!arraycopy)", "\\bMath\\.random", "\\bRandom\\b", "\\bThread\\b", "\\bclass\\s+\\w+\\s+extends",
            "\"\"\\s*\\+", "\\+\\s*\"\"", "\\bboolean\\[\\]", "\\[\\]\\[\\]", "\\bgoto\\b", "\\bstatic\\s*\\{"};
        for (String word : none) {
            Check.no("the text has " + word, Pattern.compile(word).matcher(code).find());
        }
        Matcher imports = Pattern.compile("import ([\\w.]+);").matcher(code);
        while (imports.find()) {
            Check.yes("import " + imports.group(1), List.of("java.util.Arrays", "java.util.NoSuchElementException").contains(imports.group(1)));
        }
        Matcher statics = Pattern.compile("\\bstatic (?!final)(\\w+) (\\w+)( =|;)").matcher(code);
        Check.no("a static field that is not final", statics.find());
        Matcher thrown = Pattern.compile("throw new (\\w+)").matcher(code);
        while (thrown.find()) {
            Check.yes("throws " + thrown.group(1), List.of("IndexOutOfBoundsException", "IllegalArgumentException",
                "UnsupportedOperationException", "NoSuchElementException").contains(thrown.group(1)));
        }
        Check.yes("characters up to 127", source.chars().allMatch(c -> c < 128));
    }
}
