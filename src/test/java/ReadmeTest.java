import java.io.IOException;
import java.nio.charset.StandardCharsets;
import java.nio.file.Files;
import java.nio.file.Path;
import java.util.ArrayList;
import java.util.HashMap;
import java.util.List;
import java.util.Locale;
import java.util.Map;
import java.util.regex.Matcher;
import java.util.regex.Pattern;

/** README.md: each call of its example has the answer that stands behind it, and no method of the face is left out. */
public final class ReadmeTest {
    /** "int a = desk.open();  // 0: why": perhaps a name, the method, its arguments, the answer. */
    private static final Pattern LINE =
        Pattern.compile("(?:int (\\w+) = )?desk\\.(\\w+)\\(([^)]*)\\);\\s*// ([-\\w]+).*");

    public static void main(String[] args) throws IOException {
        String readme = Files.readString(Path.of("README.md"), StandardCharsets.UTF_8);
        answersOfTheExample(example(readme));
        everyMethod(readme);
        Check.end();
    }

    private static List<String> example(String readme) {
        List<String> lines = new ArrayList<>();
        boolean isInside = false;
        for (String line : readme.split("\n")) {
            if (line.startsWith("```")) {
                isInside = line.equals("```java");
            } else if (isInside) {
                lines.add(line.strip());
            }
        }
        return lines;
    }

    private static void answersOfTheExample(List<String> lines) {
        LeaseDesk desk = new LeaseDesk();
        Map<String, Integer> names = new HashMap<>();
        int calls = 0;
        for (String line : lines) {
            Matcher told = LINE.matcher(line);
            if (told.matches()) {
                calls++;
                String answer = call(told.group(2), told.group(3), names).on(desk);
                String shown = answer.startsWith("throws ") ? answer.substring(answer.lastIndexOf('.') + 1) : answer;
                Check.same(line, shown, told.group(4));
                if (told.group(1) != null) {
                    names.put(told.group(1), Integer.valueOf(answer));
                }
            } else if (!line.isEmpty() && !line.equals("LeaseDesk desk = new LeaseDesk();")) {
                Check.fail("README.md has a line that is no call with its answer: " + line);
            }
        }
        Check.same("README.md has an example", calls > 0, true);
    }

    private static Call call(String method, String arguments, Map<String, Integer> names) {
        List<Integer> values = new ArrayList<>();
        for (String argument : arguments.split(",")) {
            String word = argument.strip();
            if (!word.isEmpty()) {
                values.add(names.containsKey(word) ? names.get(word) : Integer.valueOf(word));
            }
        }
        Kind kind = Kind.valueOf(method.toUpperCase(Locale.ROOT));
        return new Call(kind, values.stream().mapToInt(Integer::intValue).toArray());
    }

    private static void everyMethod(String readme) {
        for (Kind kind : Kind.values()) {
            Check.same("README.md tells of " + kind.word(), readme.contains("`" + kind.word() + "("), true);
        }
    }
}
