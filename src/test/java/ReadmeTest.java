import java.lang.reflect.Method;
import java.lang.reflect.Modifier;
import java.nio.file.Files;
import java.nio.file.Path;
import java.util.regex.Matcher;
import java.util.regex.Pattern;

/** README.md: its example answers what it says, its laws and stories are taken, and it tells each call of the face. */
public final class ReadmeTest {
    private static final Pattern STEP = Pattern.compile("field\\.(\\w+)\\(([^)]*)\\); *// (-?\\w+): .*");

    public static void main(String[] args) throws Exception {
        String readme = Files.readString(Path.of("README.md"));
        example(readme);
        texts(readme);
        for (Method call : GrassField.class.getDeclaredMethods()) {
            if (Modifier.isPublic(call.getModifiers())) {
                Check.yes("README tells " + call.getName(), tells(readme, call));
            }
        }
        Check.finish("ReadmeTest");
    }

    private static void example(String readme) throws Exception {
        int begin = readme.indexOf("```java\n") + 8;
        String[] lines = readme.substring(begin, readme.indexOf("```", begin)).split("\n");
        Check.yes("it begins with a new object", lines[0].equals("GrassField field = new GrassField();"));
        GrassField field = new GrassField();
        for (int i = 1; i < lines.length; i++) {
            Matcher step = STEP.matcher(lines[i]);
            Check.yes("a call and its answer: " + lines[i], step.matches());
            if (step.matches()) {
                String[] given = step.group(2).isEmpty() ? new String[0] : step.group(2).split(", ");
                Object answer = called(field, step.group(1), given);
                Check.yes(lines[i] + " answered " + answer, step.group(3).equals(String.valueOf(answer)));
            }
        }
    }

    private static Object called(GrassField field, String name, String[] given) throws Exception {
        for (Method call : GrassField.class.getDeclaredMethods()) {
            if (call.getName().equals(name) && call.getParameterCount() == given.length) {
                Object[] values = new Object[given.length];
                for (int i = 0; i < given.length; i++) {
                    values[i] = value(given[i], call.getParameterTypes()[i]);
                }
                return call.invoke(field, values);
            }
        }
        return "nothing";
    }

    private static Object value(String given, Class<?> type) {
        if (type == boolean.class) {
            return Boolean.valueOf(given);
        }
        return given.equals("GrassField.NONE") ? Integer.valueOf(GrassField.NONE) : Integer.decode(given);
    }

    private static void texts(String readme) {
        Matcher law = Pattern.compile("(?m)^    (shoot .*)$").matcher(readme);
        Check.yes("a law is told", law.find());
        Check.takes("the law", () -> Check.law(new GrassField(), law.group(1)));
        int at = readme.indexOf("A story is");
        Matcher story = Pattern.compile("`([^`]*)`").matcher(readme.substring(at, readme.indexOf("\n\n", at)));
        while (story.find()) {
            String text = story.group(1);
            Check.takes("the story " + text, () -> Check.story(new GrassField(), text, 1));
        }
    }

    private static boolean tells(String readme, Method call) {
        int parts = call.getParameterCount();
        String given = parts == 0 ? "" : "\\w+" + ", \\w+".repeat(parts - 1);
        return Pattern.compile("\\| .*`" + call.getName() + "\\(" + given + "\\)`").matcher(readme).find();
    }
}
