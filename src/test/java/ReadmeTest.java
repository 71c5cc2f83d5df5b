import java.lang.reflect.Method;
import java.nio.file.Files;
import java.nio.file.Path;
import java.util.ArrayList;
import java.util.HashMap;
import java.util.List;
import java.util.Map;
import java.util.regex.Matcher;
import java.util.regex.Pattern;
import java.util.stream.Stream;

/** README.md: every call in its examples answers what stands behind it, and it names every call and every test. */
public final class ReadmeTest {
    private static final Due due = new Due("ReadmeTest");
    private static final Pattern CALL = Pattern.compile(
            "(?:int (\\w+) = )?town\\.(\\w+)\\(([^)]*)\\);\\s*// (-?\\d+)\\b.*");

    private final Map<String, Integer> named = new HashMap<>();
    private OilTown town;

    public static void main(String[] args) throws Exception {
        List<String> page = Files.readAllLines(Path.of("README.md"));
        new ReadmeTest().examples(page);
        String text = String.join("\n", page);
        calls(text);
        tests(text);
        commands(page);
        due.end();
    }

    private static List<String> blocks(List<String> page, String kind) {
        List<String> lines = new ArrayList<>();
        boolean in = false;
        for (String line : page) {
            if (line.startsWith("```")) {
                in = line.equals("```" + kind);
            } else if (in) {
                lines.add(line);
            }
        }
        return lines;
    }

    private void examples(List<String> page) throws Exception {
        List<String> lines = blocks(page, "java");
        due.holds("examples of most calls", lines.size() > 30);
        for (String line : lines) {
            Matcher call = CALL.matcher(line);
            if (line.equals("OilTown town = new OilTown();")) {
                town = new OilTown();
            } else if (town != null && call.matches()) {
                int got = answer(call.group(2), call.group(3));
                due.is("README.md: " + line, got, Integer.parseInt(call.group(4)));
                if (call.group(1) != null) {
                    named.put(call.group(1), got);
                }
            } else {
                due.holds("a call and its answer: " + line, line.isEmpty());
            }
        }
    }

    private int answer(String name, String told) throws Exception {
        String[] words = told.isEmpty() ? new String[0] : told.split(", ");
        for (Method m : OilTown.class.getMethods()) {
            if (m.getName().equals(name) && m.getDeclaringClass() == OilTown.class) {
                Object[] numbers = new Object[words.length];
                for (int i = 0; i < words.length; i++) {
                    numbers[i] = number(words[i], m.getParameterTypes()[i]);
                }
                return (Integer) m.invoke(town, numbers);
            }
        }
        throw new IllegalArgumentException("README.md calls " + name + ", and there is no such call");
    }

    private Object number(String word, Class<?> type) {
        if (type == boolean.class) {
            return Boolean.valueOf(word);
        }
        if (type == long.class) {
            return Long.decode(word.replace("L", ""));
        }
        return named.containsKey(word) ? named.get(word) : Integer.valueOf(word);
    }

    private static void calls(String text) {
        for (Method m : OilTown.class.getMethods()) {
            if (m.getDeclaringClass() == OilTown.class) {
                due.holds("README.md tells of " + m.getName(), text.contains("`" + m.getName() + "`"));
            }
        }
    }

    /** A kind of tests is told by the name that they share: Promises..Test. */
    private static void tests(String text) throws Exception {
        Matcher named = Pattern.compile("`(\\w+Test)`").matcher(text);
        while (named.find()) {
            Path file = Path.of("src/test/java", named.group(1) + ".java");
            due.holds("there is " + file, Files.exists(file));
        }
        try (Stream<Path> files = Files.list(Path.of("src/test/java"))) {
            for (Path file : files.toList()) {
                String name = file.getFileName().toString().replace(".java", "");
                String kind = name.replaceAll("^(Promises|SentencesOf).+Test$", "$1..Test");
                due.holds("README.md tells of " + name, text.contains("`" + kind + "`"));
            }
        }
    }

    private static void commands(List<String> page) {
        for (String line : blocks(page, "sh")) {
            due.holds("can be run: " + line, line.startsWith("javac ") || line.startsWith("java ")
                    || Files.isExecutable(Path.of(line)));
            Matcher test = Pattern.compile("java -cp \\S+ (\\w+).*").matcher(line);
            if (test.matches()) {
                due.holds("there is " + test.group(1), Files.exists(Path.of("src/test/java", test.group(1) + ".java")));
            }
        }
    }
}
