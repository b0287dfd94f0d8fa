import java.io.IOException;
import java.lang.reflect.Method;
import java.lang.reflect.Modifier;
import java.nio.file.Files;
import java.nio.file.Path;
import java.util.Arrays;
import java.util.List;
import java.util.Set;
import java.util.TreeSet;
import java.util.regex.Matcher;
import java.util.regex.Pattern;

/** README.md tells the truth: its examples, its tables of calls and findings, its list of tests. */
final class ReadmeTest {
    private static final Path README = Path.of("README.md");
    private static final Path TESTS = Path.of("src/test/java");
    private static final Pattern EXAMPLE = Pattern.compile("bank\\.(\\w+)\\((.*?)\\); +// (-?\\d+)(:.*)?");
    private static final Due due = new Due();

    private ReadmeTest() {
    }

    public static void main(String[] args) throws IOException {
        List<String> lines = Files.readAllLines(README);
        examples(lines);
        calls(lines);
        findings(lines);
        tests(String.join("\n", lines));
        due.end();
    }

    private static void examples(List<String> lines) {
        FogLots bank = null;
        int played = 0;
        for (String line : lines) {
            if (line.equals("FogLots bank = new FogLots();")) {
                bank = new FogLots();
            } else if (line.startsWith("bank.")) {
                play(bank, line);
                played++;
            }
        }
        due.is("README.md has examples", played > 0 ? 1 : 0, 1);
    }

    private static void play(FogLots bank, String line) {
        Matcher example = EXAMPLE.matcher(line);
        if (bank == null || !example.matches()) {
            due.is("an example that can't be played: " + line, 1, 0);
            return;
        }
        String[] words = example.group(2).isEmpty() ? new String[0] : example.group(2).split(", *");
        int[] a = new int[words.length];
        for (int i = 0; i < words.length; i++) {
            a[i] = Integer.decode(words[i]);
        }
        due.is("README.md: " + line, Calls.call(bank, example.group(1), a), Long.parseLong(example.group(3)));
    }

    private static void calls(List<String> lines) {
        for (Method m : FogLots.class.getDeclaredMethods()) {
            if (!Modifier.isPublic(m.getModifiers())) {
                continue;
            }
            int rows = 0;
            for (String line : lines) {
                if (line.startsWith("| `" + m.getName() + "(")) {
                    String inside = line.substring(line.indexOf('(') + 1, line.indexOf(')'));
                    due.is("README.md: arguments of " + m.getName(), inside.isEmpty() ? 0 : inside.split(",").length,
                        m.getParameterCount());
                    String told = line.substring(line.lastIndexOf("|", line.length() - 2) + 1, line.length() - 1);
                    due.same("README.md: findings of " + m.getName(), testedOf(m.getName()).toString(), words(told).toString());
                    rows++;
                }
            }
            due.is("README.md: rows of " + m.getName(), rows, 1);
        }
    }

    /** The findings of a call that FindingsTest asks for. */
    private static Set<String> testedOf(String name) {
        Set<String> all = new TreeSet<>();
        for (String[] rows : List.of(FindingsTest.CALLS, FindingsTest.CALLS_OF_THEIR_OWN)) {
            for (String row : rows) {
                if (row.startsWith(name + "(")) {
                    all.add(row.substring(row.indexOf("= ") + 2));
                }
            }
        }
        return all;
    }

    private static Set<String> words(String text) {
        return text.isBlank() ? Set.of() : new TreeSet<>(Arrays.asList(text.trim().split(", ")));
    }

    private static void findings(List<String> lines) {
        String[] names = {"BEYOND", "FULL", "KIND", "NONE", "STATE", "MISSING", "SIZE"};
        for (int which = 0; which < names.length; which++) {
            String row = "| " + (-1000001 - which) + " | " + names[which] + " ";
            due.is("README.md: " + row, lines.stream().anyMatch(line -> line.startsWith(row)) ? 1 : 0, 1);
        }
    }

    private static void tests(String text) throws IOException {
        try (var files = Files.newDirectoryStream(TESTS, "*.java")) {
            for (Path file : files) {
                String name = file.getFileName().toString().replace(".java", "");
                due.is("README.md names " + name, text.contains("`" + name + "`") ? 1 : 0, 1);
            }
        }
    }
}
