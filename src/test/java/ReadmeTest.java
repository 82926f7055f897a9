import java.io.IOException;
import java.lang.reflect.Method;
import java.lang.reflect.Modifier;
import java.nio.file.DirectoryStream;
import java.nio.file.Files;
import java.nio.file.Path;
import java.util.HashMap;
import java.util.HashSet;
import java.util.List;
import java.util.Map;
import java.util.Set;
import java.util.regex.Matcher;
import java.util.regex.Pattern;

/** README.md: the calls that it shows answer as it says; no method and no test is left out. */
public final class ReadmeTest {
    private static final Pattern MADE =
            Pattern.compile("UnitThreads (\\w+) = new UnitThreads\\((-?\\d+)\\);( *// .+)?");
    private static final Pattern CALL =
            Pattern.compile("(\\w+)\\.(\\w+)\\(([^()]*)\\); *// (true|false|NONE|-?\\d+)(: .+)?");

    private final Map<String, UnitThreads> houses = new HashMap<>();
    private final Set<String> shown = new HashSet<>();
    private int calls = 0;

    public static void main(String[] args) throws IOException, ReflectiveOperationException {
        List<String> lines = Files.readAllLines(Path.of("README.md"));
        ReadmeTest test = new ReadmeTest();
        test.runBlocks(lines);
        test.everyMethodIsShown();
        everyTestIsNamed(String.join("\n", lines));
        Due.end();
    }

    private void runBlocks(List<String> lines) throws ReflectiveOperationException {
        boolean inside = false;
        for (int i = 0; i < lines.size(); i++) {
            String line = lines.get(i).strip();
            if (line.startsWith("```")) {
                inside = line.equals("```java");
            } else if (inside && !line.isEmpty()) {
                runLine("README.md, line " + (i + 1) + ": ", line);
            }
        }
        Due.no("README.md leaves the last block open", inside);
        Due.yes("README.md shows no more calls than an object is good for", calls <= 512);
    }

    private void runLine(String where, String line) throws ReflectiveOperationException {
        Matcher made = MADE.matcher(line);
        Matcher call = CALL.matcher(line);
        if (made.matches()) {
            houses.put(made.group(1), new UnitThreads(Integer.parseInt(made.group(2))));
        } else if (call.matches() && houses.containsKey(call.group(1))) {
            calls++;
            shown.add(call.group(2));
            String got = answer(houses.get(call.group(1)), call.group(2), call.group(3));
            String want = call.group(4).equals("NONE") ? "-1" : call.group(4);
            Due.same(where + call.group(2) + "(" + call.group(3) + ")", got, want);
        } else {
            Due.same(where + line, "nothing that can be read", "a call and its answer");
        }
    }

    /** Takes literals of the kind that the parameters have and nothing else, as javac would. */
    private static String answer(UnitThreads x, String name, String told)
            throws ReflectiveOperationException {
        String[] texts = told.isEmpty() ? new String[0] : told.split(", ");
        for (Method m : UnitThreads.class.getDeclaredMethods()) {
            Class<?>[] kinds = m.getParameterTypes();
            if (!isPublic(m) || !m.getName().equals(name) || kinds.length != texts.length) {
                continue;
            }
            Object[] values = new Object[texts.length];
            for (int i = 0; i < texts.length; i++) {
                values[i] = kinds[i] == long.class
                        ? (Object) Long.valueOf(texts[i].replaceFirst("L$", ""))
                        : (Object) Integer.valueOf(texts[i]);
            }
            return String.valueOf(m.invoke(x, values));
        }
        return "no such method";
    }

    private static boolean isPublic(Method m) {
        return Modifier.isPublic(m.getModifiers());
    }

    private void everyMethodIsShown() {
        for (Method m : UnitThreads.class.getDeclaredMethods()) {
            if (isPublic(m)) {
                Due.yes("README.md shows " + m.getName() + "()", shown.contains(m.getName()));
            }
        }
    }

    private static void everyTestIsNamed(String text) throws IOException {
        try (DirectoryStream<Path> files =
                Files.newDirectoryStream(Path.of("src/test/java"), "*.java")) {
            for (Path file : files) {
                String name = file.getFileName().toString().replace(".java", "");
                Due.yes("README.md says what " + name + " is for", text.contains("`" + name + "`"));
            }
        }
    }
}
