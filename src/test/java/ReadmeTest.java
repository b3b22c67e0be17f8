import java.io.IOException;
import java.lang.reflect.InvocationTargetException;
import java.lang.reflect.Method;
import java.nio.file.Files;
import java.nio.file.Path;
import java.util.regex.Matcher;
import java.util.regex.Pattern;

/** README.md: its example is called line by line and must answer what stands behind it; all calls are told. */
final class ReadmeTest {
    private static final Check CHECK = new Check("ReadmeTest");
    private static final Pattern TEXT = Pattern.compile("String text = \"([^\"]*)\";");
    private static final Pattern CALL = Pattern.compile("place\\.(\\w+)\\(([^)]*)\\); +// (-?\\d+):? .*");

    private ReadmeTest() {
    }

    public static void main(String[] args) throws IOException {
        String readme = Files.readString(Path.of("README.md"));
        example(readme);
        calls(readme);
        CHECK.close();
    }

    private static void example(String readme) {
        int begin = readme.indexOf("```java\n");
        int end = readme.indexOf("```", begin + 3);
        CHECK.due("an example stands there", begin >= 0 && end > begin ? 1 : 0, 1);
        if (begin < 0 || end < begin) {
            return;
        }
        FreePlace place = new FreePlace();
        int called = 0;
        for (String line : readme.substring(begin, end).split("\n")) {
            Matcher text = TEXT.matcher(line);
            if (text.matches()) {
                Check.feed(place, text.group(1));
            }
            Matcher call = CALL.matcher(line);
            if (call.matches()) {
                called++;
                CHECK.due(line, answer(place, call.group(1), call.group(2)), Integer.parseInt(call.group(3)));
            } else {
                CHECK.due("an answer stands behind: " + line, line.startsWith("place.") ? 1 : 0, 0);
            }
        }
        CHECK.due("calls in the example: " + called, called > 20 ? 1 : 0, 1);
    }

    private static int answer(FreePlace place, String name, String told) {
        String[] words = told.isEmpty() ? new String[0] : told.split(", ");
        Object[] values = new Object[words.length];
        for (int i = 0; i < words.length; i++) {
            values[i] = value(words[i]);
        }
        for (Method method : FreePlace.class.getMethods()) {
            if (method.getName().equals(name) && method.getParameterCount() == values.length) {
                try {
                    return (int) method.invoke(place, values);
                } catch (IllegalAccessException | InvocationTargetException e) {
                    throw new IllegalStateException(name + "(" + told + ")", e);
                }
            }
        }
        throw new IllegalStateException("no such call: " + name + "(" + told + ")");
    }

    private static Object value(String word) {
        if (word.equals("true") || word.equals("false")) {
            return word.equals("true");
        }
        return word.equals("FreePlace.NONE") ? FreePlace.NONE : Integer.valueOf(word);
    }

    private static void calls(String readme) {
        for (Method method : FreePlace.class.getDeclaredMethods()) {
            if (java.lang.reflect.Modifier.isPublic(method.getModifiers())) {
                CHECK.due(method.getName() + " is told", readme.contains("`" + method.getName() + "(") ? 1 : 0, 1);
            }
        }
        for (String word : new String[] {"NONE", "UNKNOWN", "OUTSIDE", "NOT", "FULL"}) {
            CHECK.due(word + " is told", readme.contains("`" + word + "`") ? 1 : 0, 1);
        }
    }
}
