import java.io.IOException;
import java.lang.reflect.Method;
import java.lang.reflect.Modifier;
import java.net.URL;
import java.net.URLClassLoader;
import java.nio.file.Files;
import java.nio.file.Path;
import java.util.ArrayList;
import java.util.List;
import java.util.Map;
import java.util.Set;
import java.util.TreeMap;
import java.util.TreeSet;
import java.util.regex.Matcher;
import java.util.regex.Pattern;

/**
 * README.md: its Java is compiled and run, and each call of it answers what stands behind it; its tables have every call
 * once, as the document writes it, with the refusals that its promise names. Runs in the project's folder.
 */
public final class ReadmeTest {
    private static final Pattern CALL = Pattern.compile("city\\.(\\w+)\\(.*\\);\\s*// (-?\\d+)(: .*)?");
    private static final Pattern ROW = Pattern.compile("\\| `(\\w+)\\(([\\w, ]*)\\)` \\|.*\\| ([^|]*)\\|");
    private static final Pattern REFUSAL = Pattern.compile("\\b(BAD|STATE|FULL|NO)\\b|(?<!\\d)-1[1-4]\\b");
    private static final Pattern PROMISE = Pattern.compile("`(?:int|long) (\\w+)\\(.*?\\)`: (.*)");
    private static final Pattern FACE = Pattern.compile(" {4}public (?:int|long) (\\w+)\\((.*)\\);");

    private static final Path DOCUMENT = Path.of("../shared/DOC.md");

    private final Due due = new Due("ReadmeTest");
    private final List<String> lines = Files.readAllLines(Path.of("README.md"));
    private final List<String> document = Files.exists(DOCUMENT) ? Files.readAllLines(DOCUMENT) : List.of();

    /** Calls of the page that tell an answer, and those answers. */
    private final List<String> calls = new ArrayList<>();
    private final List<Long> wanted = new ArrayList<>();

    private ReadmeTest() throws IOException {
    }

    public static void main(String[] args) throws Exception {
        ReadmeTest test = new ReadmeTest();
        test.run();
        test.tables();
        test.due.end();
    }

    private void run() throws Exception {
        String program = program();
        Path folder = Files.createTempDirectory("readme");
        Path source = folder.resolve("ReadmeRun.java");
        Files.writeString(source, program);
        int compiled = new ProcessBuilder("javac", "-cp", System.getProperty("java.class.path"), "-d", folder.toString(),
            source.toString()).inheritIO().start().waitFor();
        due.is("javac of README.md's Java", compiled, 0);
        if (compiled == 0) {
            try (URLClassLoader loader = new URLClassLoader(new URL[] {folder.toUri().toURL()})) {
                answer(loader.loadClass("ReadmeRun"));
            }
        }
        for (Path file : Files.list(folder).toList()) {
            Files.delete(file);
        }
        Files.delete(folder);
    }

    private void answer(Class<?> readmeRun) throws ReflectiveOperationException {
        List<Long> answers = new ArrayList<>();
        readmeRun.getMethod("run", List.class).invoke(null, answers);
        for (int i = 0; i < wanted.size(); i++) {
            due.is("README.md: " + calls.get(i), answers.get(i), wanted.get(i));
        }
        for (String name : names()) {
            boolean isShown = lines.stream().anyMatch(line -> line.trim().startsWith("city." + name + "("));
            due.holds("README.md shows a call of " + name, isShown);
        }
    }

    /** The page's functions, and what else is Java on it as one run that keeps the answers. */
    private String program() {
        StringBuilder functions = new StringBuilder();
        StringBuilder run = new StringBuilder();
        StringBuilder block = null;
        for (String line : lines) {
            if (line.equals("```java")) {
                block = new StringBuilder();
            } else if (line.equals("```") && block != null) {
                boolean isFunction = block.indexOf("static ") == 0;
                // A block that makes a new object begins a run of its own.
                (isFunction ? functions : run).append(block.indexOf("new FloodCity") >= 0 ? "} {\n" : "").append(block);
                block = null;
            } else if (block != null) {
                block.append(kept(line)).append('\n');
            }
        }
        return "public final class ReadmeRun {\n" + functions
            + "public static void run(java.util.List<Long> answers) { {\n" + run + "} }\n}\n";
    }

    private String kept(String line) {
        Matcher call = CALL.matcher(line);
        boolean isCall = call.matches();
        due.holds("README.md tells the answer of " + line, isCall || !line.startsWith("city."));
        if (!isCall) {
            return line;
        }
        String plain = line.substring(0, line.indexOf(';'));
        calls.add(plain);
        wanted.add(Long.parseLong(call.group(2)));
        return "answers.add((long) " + plain + ");";
    }

    private void tables() {
        Map<String, String> rows = new TreeMap<>();
        Map<String, String> refusals = new TreeMap<>();
        for (String line : lines) {
            Matcher row = ROW.matcher(line);
            if (row.matches()) {
                due.holds("README.md has one row of " + row.group(1), rows.put(row.group(1), row.group(2)) == null);
                refusals.put(row.group(1), namedIn(row.group(3)));
            }
        }
        due.holds("README.md has a row of each call: " + rows.keySet(), rows.keySet().equals(names()));
        if (document.isEmpty()) {
            System.out.println("no " + DOCUMENT + ": README.md's tables are not looked up");
            return;
        }
        due.holds("README.md's calls are those of the document: " + rows, rows.equals(documentsFace()));
        Map<String, String> promised = promisedRefusals();
        for (String name : names()) {
            due.holds("README.md: " + name + " refuses by " + promised.get(name) + ", as its promise says",
                promised.getOrDefault(name, "").equals(refusals.get(name)));
        }
    }

    /** The refusals that a text names, in their order. */
    private static String namedIn(String text) {
        List<String> named = new ArrayList<>();
        Matcher refusal = REFUSAL.matcher(text);
        while (refusal.find()) {
            named.add(refusal.group());
        }
        return String.join(" ", named);
    }

    private static Set<String> names() {
        Set<String> names = new TreeSet<>();
        for (Method method : FloodCity.class.getDeclaredMethods()) {
            if (Modifier.isPublic(method.getModifiers())) {
                names.add(method.getName());
            }
        }
        return names;
    }

    private Map<String, String> documentsFace() {
        Map<String, String> face = new TreeMap<>();
        for (String line : document) {
            Matcher method = FACE.matcher(line);
            if (method.matches()) {
                face.put(method.group(1), method.group(2).replaceAll("(int|long) ", ""));
            }
        }
        return face;
    }

    private Map<String, String> promisedRefusals() {
        Map<String, String> refusals = new TreeMap<>();
        for (String line : document) {
            Matcher promise = PROMISE.matcher(line);
            if (promise.matches()) {
                refusals.put(promise.group(1), namedIn(promise.group(2)));
            }
        }
        return refusals;
    }
}
