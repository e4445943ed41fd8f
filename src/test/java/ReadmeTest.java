import java.io.IOException;
import java.lang.reflect.Method;
import java.lang.reflect.Modifier;
import java.lang.reflect.Parameter;
import java.nio.file.Files;
import java.nio.file.Path;
import java.util.ArrayList;
import java.util.HashMap;
import java.util.List;
import java.util.Map;
import java.util.TreeSet;
import java.util.regex.Matcher;
import java.util.regex.Pattern;

/** README.md names every call of the class and every test, and its examples answer what stands behind them. */
public final class ReadmeTest {
    private static final Pattern BLOCK = Pattern.compile("(?s)```java\n(.*?)```");
    private static final Pattern STATEMENT =
            Pattern.compile("(?:int (\\w+) = )?news\\.(\\w+)\\(([^)]*)\\); *// (-?\\d+)(?:: .*)?");
    private static final Pattern ROW = Pattern.compile("(?m)^\\| `(\\w+)\\(([^)]*)\\)` \\| \\S.*\\|$");
    private static final Check check = new Check();

    public static void main(String[] args) throws IOException, ReflectiveOperationException {
        String page = Files.readString(Path.of("README.md"));
        everyCallHasItsRow(page);
        refusalsHaveTheirNumbers(page);
        everyTestIsNamed(page);
        examplesAnswer(page);
        check.end();
    }

    private static Map<String, Method> face() {
        Map<String, Method> face = new HashMap<>();
        for (Method method : HandNews.class.getDeclaredMethods()) {
            if (Modifier.isPublic(method.getModifiers())) {
                face.put(method.getName(), method);
            }
        }
        return face;
    }

    private static void everyCallHasItsRow(String page) {
        check.sentence("README.md says what its calls are for");
        Map<String, Method> face = face();
        List<String> rows = new ArrayList<>();
        Matcher row = ROW.matcher(page);
        while (row.find()) {
            String name = row.group(1);
            rows.add(name);
            Method method = face.get(name);
            check.holds(name + " is a call of the class", method != null);
            int parts = row.group(2).isEmpty() ? 0 : row.group(2).split(", ").length;
            check.due("numbers of " + name, method == null ? -1 : method.getParameterCount(), parts);
        }
        check.due("calls in tables", 37, rows.size());
        check.holds("each once: " + rows, new TreeSet<>(rows).equals(new TreeSet<>(face.keySet())));
    }

    private static void refusalsHaveTheirNumbers(String page) {
        check.sentence("README.md says what the answers BAD, NO, NONE and FULL mean");
        Map<String, Integer> refusals =
                Map.of("BAD", HandNews.BAD, "NO", HandNews.NO, "NONE", HandNews.NONE, "FULL", HandNews.FULL);
        for (Map.Entry<String, Integer> one : refusals.entrySet()) {
            String row = "| `" + one.getKey() + "` | " + one.getValue() + " | ";
            check.due(row, 1, page.split(Pattern.quote(row), -1).length - 1);
        }
        int[] order = {page.indexOf("| `BAD`"), page.indexOf("| `NO`"), page.indexOf("| `NONE`"), page.indexOf("| `FULL`")};
        check.holds("of several the first", order[0] < order[1] && order[1] < order[2] && order[2] < order[3]);
    }

    private static void everyTestIsNamed(String page) throws IOException {
        check.sentence("README.md says how to run its tests");
        check.holds("all of them", page.contains("`.ci/run`"));
        try (var files = Files.newDirectoryStream(Path.of("src/test/java"), "*Test.java")) {
            for (Path file : files) {
                String name = file.getFileName().toString().replace(".java", "");
                check.holds(name + " is named", page.contains("`" + name + "`"));
            }
        }
    }

    private static void examplesAnswer(String page) throws ReflectiveOperationException {
        check.sentence("the examples of README.md");
        Matcher block = BLOCK.matcher(page);
        int blocks = 0;
        while (block.find()) {
            blocks++;
            String[] lines = block.group(1).split("\n");
            check.holds("an object is made", lines[0].equals("HandNews news = new HandNews();"));
            play(lines);
        }
        check.due("examples", 2, blocks);
    }

    private static void play(String[] lines) throws ReflectiveOperationException {
        HandNews news = new HandNews();
        Map<String, Integer> names = new HashMap<>();
        for (int i = 1; i < lines.length; i++) {
            Matcher line = STATEMENT.matcher(lines[i]);
            boolean reads = line.matches();
            check.holds("'" + lines[i] + "' is a call with its answer", reads);
            if (!reads) {
                continue;
            }
            Method method = face().get(line.group(2));
            long answer = ((Number) method.invoke(news, values(method, line.group(3), names))).longValue();
            check.due(lines[i], Long.parseLong(line.group(4)), answer);
            if (line.group(1) != null) {
                names.put(line.group(1), (int) answer);
            }
        }
    }

    private static Object[] values(Method method, String list, Map<String, Integer> names) {
        String[] words = list.isEmpty() ? new String[0] : list.split(", ");
        Parameter[] parameters = method.getParameters();
        Object[] values = new Object[words.length];
        for (int i = 0; i < words.length; i++) {
            if (parameters[i].getType() == boolean.class) {
                values[i] = Boolean.valueOf(words[i]);
            } else if (parameters[i].getType() == long.class) {
                values[i] = Long.decode(words[i].replace("L", ""));
            } else {
                values[i] = names.containsKey(words[i]) ? names.get(words[i]) : Integer.valueOf(words[i]);
            }
        }
        return values;
    }
}
