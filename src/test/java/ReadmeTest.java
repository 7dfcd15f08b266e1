import java.lang.reflect.Method;
import java.lang.reflect.Modifier;
import java.net.URL;
import java.net.URLClassLoader;
import java.nio.file.Files;
import java.nio.file.Path;
import java.util.ArrayList;
import java.util.HashMap;
import java.util.HashSet;
import java.util.List;
import java.util.Map;
import java.util.Set;
import java.util.regex.Matcher;
import java.util.regex.Pattern;

/** README.md (whose path ICE_README tells): its examples are run, and its tables have all calls, kinds and findings. */
public final class ReadmeTest {
    private static final Due DUE = new Due("ReadmeTest");
    private static int asked;
    private static final Pattern EXAMPLE = Pattern.compile("(?ms)^```java\n(.*?)^```$");
    private static final Pattern ANSWERED = Pattern.compile("(.*?)(\\w+\\.\\w+\\(.*\\));\\s+// (-?\\d+): .*");

    public static void main(String[] args) throws Exception {
        String path = System.getenv("ICE_README");
        String readme = Files.readString(Path.of(path == null ? "README.md" : path));
        examples(readme);
        calls(readme);
        kinds(readme);
        findings(readme);
        DUE.end();
    }

    /** Called by the compiled examples: one line of them with its answer. */
    public static int due(String line, int got, int want) {
        asked++;
        DUE.same(0, line, got, want);
        return got;
    }

    private static void examples(String readme) throws Exception {
        StringBuilder body = new StringBuilder();
        int answers = 0;
        Matcher example = EXAMPLE.matcher(readme);
        while (example.find()) {
            for (String line : example.group(1).split("\n")) {
                Matcher answered = ANSWERED.matcher(line);
                boolean is = answered.matches();
                answers += is ? 1 : 0;
                DUE.holds("an answer in: " + line, is || !line.contains("//"));
                String checked = "$1ReadmeTest.due(\"" + named(line) + "\", $2, $3);";
                body.append(is ? answered.replaceFirst(checked) : line).append('\n');
            }
        }
        DUE.holds("the examples tell answers", answers > 0);
        run("public final class Examples { public static void run() {\n" + body + "} }");
        DUE.same(0, "answers of examples asked", asked, answers);
    }

    private static String named(String line) {
        return Matcher.quoteReplacement(line.trim().replace("\\", "\\\\").replace("\"", "\\\""));
    }

    private static void run(String source) throws Exception {
        Path place = Files.createTempDirectory("examples");
        Path file = Files.writeString(place.resolve("Examples.java"), source);
        int code = new ProcessBuilder("javac", "-d", place.toString(), "-cp", System.getProperty("java.class.path"),
            file.toString()).inheritIO().start().waitFor();
        DUE.same(0, "the examples compile", code, 0);
        if (code == 0) {
            try (URLClassLoader loader = new URLClassLoader(new URL[] {place.toUri().toURL()})) {
                loader.loadClass("Examples").getMethod("run").invoke(null);
            }
        }
        Files.deleteIfExists(place.resolve("Examples.class"));
        Files.delete(file);
        Files.delete(place);
    }

    private static List<String[]> rows(String readme, String heading) {
        List<String[]> rows = new ArrayList<>();
        boolean inside = false;
        for (String line : readme.split("\n")) {
            inside = line.startsWith("### ") || line.startsWith("## ") ? line.equals("### " + heading) : inside;
            if (inside && line.startsWith("|") && !line.startsWith("|--")) {
                rows.add(line.substring(1).trim().split("\\s*\\|\\s*"));
            }
        }
        DUE.holds("a table under " + heading, rows.size() > 1);
        rows.remove(0);
        return rows;
    }

    private static void calls(String readme) {
        Map<String, Integer> told = new HashMap<>();
        for (String[] row : rows(readme, "All calls")) {
            Matcher call = Pattern.compile("`(\\w+)\\((.*?)\\)`").matcher(row[0]);
            while (call.find()) {
                int arguments = call.group(2).isEmpty() ? 0 : call.group(2).split(",").length;
                DUE.holds(call.group() + " is told once", told.put(call.group(1), arguments) == null);
            }
        }
        Set<String> face = new HashSet<>();
        for (Method m : IcePalace.class.getDeclaredMethods()) {
            if (Modifier.isPublic(m.getModifiers())) {
                face.add(m.getName());
                DUE.same(0, "arguments of " + m.getName(), told.getOrDefault(m.getName(), -1), m.getParameterCount());
            }
        }
        DUE.holds("no other calls", told.keySet().equals(face));
    }

    /** What a kind bears is told by one block of it with 10 GRAINS. */
    private static void kinds(String readme) {
        Map<String, Integer> bears = Map.of("4 times GRAINS", 40, "as a BLOCK", 40, "as an ARCH and 20", 60,
            "12 times GRAINS", 120, "8 times GRAINS", 80);
        List<String[]> rows = rows(readme, "The wall");
        DUE.same(0, "kinds", rows.size(), 7);
        for (String[] row : rows) {
            IcePalace palace = new IcePalace();
            DUE.same(0, "kind " + row[0], palace.block(Integer.parseInt(row[0]), 0, 10), 0);
            DUE.same(0, "what " + row[1] + " bears", palace.blockOf(0, 6), bears.getOrDefault(row[3], -1));
            Matcher kind = Pattern.compile("[ ,]" + row[0] + " " + row[1] + "\\b").matcher(new Document().section(0));
            DUE.holds("kind " + row[0] + " is " + row[1], kind.find());
        }
    }

    private static void findings(String readme) {
        List<String[]> rows = rows(readme, "Answers");
        DUE.same(0, "findings", rows.size(), 7);
        for (int i = 0; i < rows.size(); i++) {
            DUE.same(0, "number of " + rows.get(i)[0], Integer.parseInt(rows.get(i)[1]), -1000001 - i);
            DUE.same(0, "status of " + rows.get(i)[0], Integer.parseInt(rows.get(i)[2]), i);
            String name = i == 0 ? "LOW BEYOND" : "LOW - " + i + " " + rows.get(i)[0];
            DUE.holds("the document has " + name, new Document().section(0).contains(name) && name.endsWith(rows.get(i)[0]));
        }
    }
}
