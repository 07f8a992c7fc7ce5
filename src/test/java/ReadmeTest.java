import java.lang.reflect.Method;
import java.lang.reflect.Modifier;
import java.net.URL;
import java.net.URLClassLoader;
import java.nio.file.Files;
import java.nio.file.Path;
import java.util.ArrayList;
import java.util.LinkedHashMap;
import java.util.List;
import java.util.Map;
import java.util.TreeMap;
import java.util.regex.Matcher;
import java.util.regex.Pattern;
import javax.tools.ToolProvider;

/** What README.md says: its pieces are run as one program, its table is held against the face. */
public final class ReadmeTest {
    private static final Path README = Path.of("README.md");

    // A statement, and behind it what it answers, or what it throws.
    private static final Pattern ANSWERED =
            Pattern.compile("(?:int (?<name>\\w+) = )?(?<call>.*);\\s*// "
                    + "(?:throws (?<thrown>\\w+)|(?<answer>-?\\d+|true|false)(?::.*)?)");

    private static final Pattern NAME = Pattern.compile("`(\\w+)`");

    public static void main(String[] args) throws Exception {
        List<String> lines = Files.readAllLines(README);
        everyCallIsShown(lines);
        compare(lines, run(program(lines)));
        table(lines);
        Check.end();
    }

    /** The lines of the pieces of Java, in their order. */
    private static List<String> pieces(List<String> lines) {
        List<String> found = new ArrayList<>();
        boolean isPiece = false;
        for (String line : lines) {
            if (line.startsWith("```")) {
                isPiece = line.equals("```java");
            } else if (isPiece) {
                found.add(line);
            }
        }
        return found;
    }

    private static void everyCallIsShown(List<String> lines) {
        String all = String.join("\n", pieces(lines));
        for (String name : thrownByFace().keySet()) {
            Check.due("README shows " + name, true, all.contains("desk." + name + "("));
        }
    }

    /** The pieces as a program that puts what its calls answer, or throw, into a list. */
    private static String program(List<String> lines) {
        StringBuilder text = new StringBuilder("public final class Pieces {\n"
                + "public static void run(java.util.List<String> got) {\n");
        for (String line : pieces(lines)) {
            Matcher found = ANSWERED.matcher(line);
            text.append(found.matches() ? noted(found) : line).append('\n');
        }
        return text.append("}\n}\n").toString();
    }

    private static String noted(Matcher found) {
        String call = found.group("call");
        String name = found.group("name");
        if (found.group("thrown") != null) {
            return "try { " + call + "; got.add(\"nothing\"); }"
                    + " catch (RuntimeException e) { got.add(e.getClass().getSimpleName()); }";
        }
        return name == null ? "got.add(String.valueOf(" + call + "));"
                : "int " + name + " = " + call + "; got.add(String.valueOf(" + name + "));";
    }

    private static void compare(List<String> lines, List<String> got) {
        int at = 0;
        for (String line : pieces(lines)) {
            Matcher found = ANSWERED.matcher(line);
            if (found.matches()) {
                String due = found.group(found.group("thrown") != null ? "thrown" : "answer");
                Check.due("README: " + line, due, at < got.size() ? got.get(at) : "nothing");
                at++;
            } else {
                Check.due("README tells an answer in: " + line, false, line.contains("//"));
            }
        }
        Check.due("answers of README", at, got.size());
    }

    private static List<String> run(String program) throws Exception {
        List<String> got = new ArrayList<>();
        Path place = Files.createTempDirectory("readme");
        try {
            Path source = Files.writeString(place.resolve("Pieces.java"), program);
            int failed = ToolProvider.getSystemJavaCompiler().run(null, null, null,
                    "-cp", System.getProperty("java.class.path"), "-d", place.toString(),
                    source.toString());
            Check.due("the pieces of README are compiled", 0, failed);
            if (failed == 0) {
                try (URLClassLoader loader = new URLClassLoader(new URL[] {place.toUri().toURL()})) {
                    loader.loadClass("Pieces").getMethod("run", List.class).invoke(null, got);
                }
            }
        } finally {
            for (String name : new String[] {"Pieces.java", "Pieces.class"}) {
                Files.deleteIfExists(place.resolve(name));
            }
            Files.deleteIfExists(place);
        }
        return got;
    }

    /** What each call of the face throws, in its order. */
    private static Map<String, List<String>> thrownByFace() {
        Map<String, List<String>> all = new TreeMap<>();
        for (Method method : Pagerloom.class.getDeclaredMethods()) {
            if (Modifier.isPublic(method.getModifiers())) {
                List<String> thrown = new ArrayList<>();
                for (Class<?> one : method.getExceptionTypes()) {
                    thrown.add(one.getSimpleName());
                }
                all.put(method.getName(), thrown);
            }
        }
        return all;
    }

    private static void table(List<String> lines) {
        Map<String, List<String>> told = new LinkedHashMap<>();
        List<String> calls = List.of();
        for (String line : lines) {
            String[] cells = line.split("\\|");
            if (cells.length == 4 && cells[2].matches(" `\\w+Exception` ")) {
                calls = cells[1].isBlank() ? calls : names(cells[1]);
                for (String call : calls) {
                    told.computeIfAbsent(call, key -> new ArrayList<>()).addAll(names(cells[2]));
                }
            } else if (line.startsWith("The other calls (")) {
                for (String call : names(line)) {
                    told.put(call, List.of());
                }
            }
        }
        Check.due("what README's table tells", thrownByFace().toString(),
                new TreeMap<>(told).toString());
    }

    private static List<String> names(String cell) {
        List<String> found = new ArrayList<>();
        Matcher name = NAME.matcher(cell);
        while (name.find()) {
            found.add(name.group(1));
        }
        return found;
    }
}
