import java.io.IOException;
import java.lang.reflect.Method;
import java.nio.file.Files;
import java.nio.file.Path;
import java.util.HashMap;
import java.util.List;
import java.util.Map;
import java.util.regex.Matcher;
import java.util.regex.Pattern;

/** README.md tells of every call, error and order, and the calls of its examples answer what stands behind them. */
public final class ReadmeTest extends Checks {
    private static final Pattern NEW_OBJECT = Pattern.compile("GalaHeats gala = new GalaHeats\\(\\);");
    private static final Pattern TYPING = Pattern.compile("for \\(char sign : \"(.*)\"\\.toCharArray\\(\\)\\) \\{ gala\\.type\\(sign\\); \\}");
    private static final Pattern CALL = Pattern.compile("(?:int (\\w+) = )?gala\\.(\\w+)\\((.*?)\\); +// (-?\\w+)(?::.*)?");
    private static final Map<String, Integer> ERRORS =
        Map.of("INVALID_ARGUMENT", INVALID, "NOT_POSSIBLE", IMPOSSIBLE, "LIMIT_REACHED", LIMIT, "NOT_FOUND", NONE);
    private static final Map<String, Integer> MOST_OF_WHAT =
        Map.of("set", 2, "swimmer", 11, "heat", 4, "ifDrawn", 2, "lane", 1, "count", 13, "fault", 2);

    private final Map<String, Integer> names = new HashMap<>();
    private GalaHeats gala;

    public static void main(String[] args) throws IOException, ReflectiveOperationException {
        List<String> page = Files.readAllLines(Path.of("README.md"));
        everyCallHasARow(page);
        everyErrorHasARow(page);
        everyOrderHasARow(page);
        everyTestHasARow(page);
        examples(page);
        finish();
    }

    private static String rowOf(List<String> page, String beginning) {
        List<String> rows = page.stream().filter(line -> line.startsWith("| `" + beginning)).toList();
        due("rows of README.md for " + beginning, rows.size(), 1);
        return rows.isEmpty() ? "" : rows.get(0);
    }

    private static void everyCallHasARow(List<String> page) {
        for (Method method : GalaHeats.class.getMethods()) {
            if (method.getDeclaringClass() == GalaHeats.class) {
                String row = rowOf(page, method.getName() + "(");
                String arguments = row.replaceAll("^[^(]*\\(([^)]*)\\)`.*$", "$1");
                due("arguments in " + row, arguments.isEmpty() ? 0 : arguments.split(", ").length, method.getParameterCount());
                String answers = row.replaceAll("^\\| .*? \\| (.*) \\|.*\\|$", "$1");
                int most = MOST_OF_WHAT.getOrDefault(method.getName(), -1);
                for (int what = 0; what <= most; what++) {
                    due("the what " + what + " in '" + answers + "' (1: yes)", answers.matches("(.* )?" + what + " .*") ? 1 : 0, 1);
                }
            }
        }
    }

    private static void everyErrorHasARow(List<String> page) {
        ERRORS.forEach((name, value) ->
            due(name + " has its value (1: yes)", rowOf(page, name + "` |").contains("| " + value + " |") ? 1 : 0, 1));
    }

    private static void everyOrderHasARow(List<String> page) {
        Map<String, String> calls =
            Map.of("e", "enter", "s", "swim", "x", "scratch", "d", "draw", "f", "finals", "o", "end", "n", "next");
        calls.forEach((letter, call) -> {
            List<String> rows = page.stream().filter(line -> line.matches("\\| `" + letter + "(\\d+(,\\d+)?)?;` \\|.*")).toList();
            due("orders in README.md that begin with " + letter, rows.size(), 1);
            due("the order " + letter + " is " + call + " (1: yes)", rows.toString().contains("`" + call + "(") ? 1 : 0, 1);
        });
    }

    private static void everyTestHasARow(List<String> page) throws IOException {
        try (var files = Files.list(Path.of("src/test/java"))) {
            files.map(file -> file.getFileName().toString()).filter(name -> name.endsWith("Test.java"))
                .forEach(name -> rowOf(page, name.replace(".java", "") + "` |"));
        }
    }

    private static void examples(List<String> page) throws ReflectiveOperationException {
        ReadmeTest example = null;
        int found = 0;
        for (String line : page) {
            if (line.startsWith("```")) {
                example = line.equals("```java") ? new ReadmeTest() : null;
                found += example == null ? 0 : 1;
            } else if (example != null) {
                example.doLine(line);
            }
        }
        due("examples in README.md", found, 3);
    }

    private void doLine(String line) throws ReflectiveOperationException {
        Matcher call = CALL.matcher(line);
        Matcher typing = TYPING.matcher(line);
        if (NEW_OBJECT.matcher(line).matches()) {
            gala = new GalaHeats();
        } else if (typing.matches()) {
            typing.group(1).chars().forEach(sign -> dueTaken("type " + sign, gala.type(sign)));
        } else if (call.matches()) {
            int answer = ask(call.group(2), call.group(3));
            due("README.md: " + line, answer, value(call.group(4)));
            if (call.group(1) != null) {
                names.put(call.group(1), answer);
            }
        } else {
            due("README.md: a line that is no call, '" + line + "'", 1, 0);
        }
    }

    private int ask(String name, String arguments) throws ReflectiveOperationException {
        String[] words = arguments.isEmpty() ? new String[0] : arguments.split(", ");
        Class<?>[] types = new Class<?>[words.length];
        Object[] values = new Object[words.length];
        for (int place = 0; place < words.length; place++) {
            types[place] = int.class;
            values[place] = value(words[place]);
        }
        return (int) GalaHeats.class.getMethod(name, types).invoke(gala, values);
    }

    private int value(String word) {
        if (names.containsKey(word)) {
            return names.get(word);
        }
        return ERRORS.containsKey(word) ? ERRORS.get(word) : Integer.parseInt(word);
    }
}
