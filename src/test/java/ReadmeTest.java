import java.lang.reflect.Method;
import java.nio.file.Files;
import java.nio.file.Path;
import java.util.regex.Matcher;
import java.util.regex.Pattern;

/**
 * README.md: what it shows of the class's answers is what the class answers, and it names every call of
 * the face and every test of the project.
 */
public final class ReadmeTest {
    private static final String NEW = "StudioYears works = new StudioYears();";
    private static final Pattern CALL = Pattern.compile("works\\.(\\w+)\\((.*)\\); +// (-?\\d+)\\b.*");

    public static void main(String[] args) throws Exception {
        String text = Files.readString(Path.of("README.md"));
        Matcher block = Pattern.compile("(?s)```java\n(.*?)```").matcher(text);
        int calls = 0;
        // One object goes through all blocks that follow on the one in which it is made.
        StudioYears works = null;
        while (block.find()) {
            for (String line : block.group(1).split("\n")) {
                if (line.equals(NEW)) {
                    works = new StudioYears();
                } else if (!line.isBlank()) {
                    call(works, line);
                    calls++;
                }
            }
        }
        Checks.due("README.md shows calls", calls > 40 ? 1 : 0, 1);
        namesAll(text);
        Checks.end();
    }

    private static void call(StudioYears works, String line) throws Exception {
        Matcher call = CALL.matcher(line);
        if (works == null || !call.matches()) {
            Checks.due("README.md: a call with its answer: " + line, 0, 1);
            return;
        }
        String[] words = call.group(2).isEmpty() ? new String[0] : call.group(2).split(", ");
        for (Method one : StudioYears.class.getMethods()) {
            if (one.getName().equals(call.group(1)) && one.getParameterCount() == words.length) {
                Object[] with = new Object[words.length];
                for (int i = 0; i < words.length; i++) {
                    with[i] = argument(words[i], one.getParameterTypes()[i]);
                }
                Checks.due(line, ((Number) one.invoke(works, with)).longValue(), Long.parseLong(call.group(3)));
                return;
            }
        }
        Checks.due("README.md: a call of the face: " + line, 0, 1);
    }

    private static Object argument(String word, Class<?> type) {
        if (type == boolean.class) {
            return Boolean.valueOf(word);
        }
        long number = word.equals("StudioYears.NONE") ? StudioYears.NONE
                : word.startsWith("'") ? word.charAt(1)
                : word.startsWith("0b") ? Long.parseLong(word.substring(2), 2) : Long.parseLong(word);
        return type == long.class ? (Object) number : (Object) (int) number;
    }

    private static void namesAll(String text) throws Exception {
        for (Method one : StudioYears.class.getDeclaredMethods()) {
            if (java.lang.reflect.Modifier.isPublic(one.getModifiers())) {
                boolean named = Pattern.compile("\\b" + one.getName() + "\\b").matcher(text).find();
                Checks.due("README.md names " + one.getName(), named ? 1 : 0, 1);
            }
        }
        try (var files = Files.list(Path.of("src/test/java"))) {
            for (Path file : files.toList()) {
                String name = file.getFileName().toString().replace(".java", "");
                boolean named = Pattern.compile("\\b" + name + "\\b").matcher(text).find();
                Checks.due("README.md names " + name, named ? 1 : 0, 1);
            }
        }
    }
}
