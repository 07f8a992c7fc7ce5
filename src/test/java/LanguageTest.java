import java.io.IOException;
import java.lang.management.ManagementFactory;
import java.lang.reflect.Constructor;
import java.lang.reflect.Field;
import java.lang.reflect.Method;
import java.lang.reflect.Modifier;
import java.nio.file.Files;
import java.nio.file.Path;
import java.util.ArrayList;
import java.util.HashSet;
import java.util.List;
import java.util.Set;
import java.util.TreeSet;

/** The rules of LANGUAGE.md that the class files and the source show, and the room that a run takes. */
public final class LanguageTest {
    private static final Path SOURCE = Path.of("src/main/java/Pagerloom.java");

    // Rule 4 and rule 6: all that the class may name outside of itself.
    private static final Set<String> LIBRARY = Set.of(
            "java/lang/Object.<init>", "java/util/Arrays.fill", "java/lang/Math.max", "java/lang/Math.min",
            "java/lang/IllegalArgumentException.<init>", "java/lang/IllegalStateException.<init>",
            "java/lang/IndexOutOfBoundsException.<init>", "java/util/NoSuchElementException.<init>");

    private static final Path DOCUMENT = Path.of("../shared/DOC.md");

    public static void main(String[] args) throws IOException {
        face();
        List<Class<?>> classes = new ArrayList<>(List.of(Pagerloom.class.getDeclaredClasses()));
        Check.due("twelve classes at most", true, classes.size() + 1 <= 12);
        classes.add(Pagerloom.class);
        for (Class<?> inside : classes) {
            members(inside);
            names(inside);
        }
        source();
        room();
        Check.end();
    }

    /** The methods of the document's face, as "int type(char) throws java.lang.A,java.lang.B". */
    private static Set<String> dueFace() throws IOException {
        Set<String> due = new TreeSet<>();
        for (String line : Files.readAllLines(DOCUMENT)) {
            if (line.matches("    public [a-z]+ [a-zA-Z]+\\(.*;")) {
                String[] halves = line.replaceAll("^    public |;$", "").split(" throws ");
                String call = halves[0].replaceAll(" [a-zA-Z]+(?=[,)])", "").replace(", ", ",");
                String thrown = halves.length < 2 ? ""
                        : halves[1].replaceAll("(?<![.a-zA-Z])(?=[A-Z])", "java.lang.").replace(", ", ",");
                due.add(call + " throws " + thrown);
            }
        }
        return due;
    }

    private static void face() throws IOException {
        Set<String> due = dueFace();
        Check.due("methods of the document's face", 29, due.size());
        Set<String> got = new TreeSet<>();
        Set<String> names = new HashSet<>();
        for (Method method : Pagerloom.class.getDeclaredMethods()) {
            if (Modifier.isPublic(method.getModifiers())) {
                String all = method.toString().replace("public ", "").replace("Pagerloom.", "");
                got.add(all.contains(" throws ") ? all : all + " throws ");
                names.add(method.getName());
            }
        }
        Check.due("the face", due.toString(), got.toString());
        for (Method method : Pagerloom.class.getDeclaredMethods()) {
            int modifiers = method.getModifiers();
            Check.due(method + " is public or private", true,
                    Modifier.isPublic(modifiers) || Modifier.isPrivate(modifiers));
            Check.due(method + " bears no public name", false,
                    Modifier.isPrivate(modifiers) && names.contains(method.getName()));
        }
        for (Field field : Pagerloom.class.getDeclaredFields()) {
            Check.due(field + " is private or NONE", true,
                    Modifier.isPrivate(field.getModifiers()) || field.getName().equals("NONE"));
        }
        Constructor<?>[] constructors = Pagerloom.class.getDeclaredConstructors();
        Check.due("one constructor", 1, constructors.length);
        Check.due("it takes nothing", 0, constructors[0].getParameterCount());
        Check.due("final", true, Modifier.isFinal(Pagerloom.class.getModifiers()));
    }

    private static void members(Class<?> inside) {
        int fields = 0;
        for (Field field : inside.getDeclaredFields()) {
            boolean isStatic = Modifier.isStatic(field.getModifiers());
            fields += isStatic ? 0 : 1;
            Check.due(field + " is final if static", true,
                    !isStatic || Modifier.isFinal(field.getModifiers()));
        }
        Check.due(inside + " has twenty fields at most", true, fields <= 20);
        for (Method method : inside.getDeclaredMethods()) {
            Check.due(method + " has seven parameters at most", true, method.getParameterCount() <= 7);
        }
        int modifiers = inside.getModifiers();
        Check.due(inside + " is the public one, or static and not public", true,
                inside == Pagerloom.class || Modifier.isStatic(modifiers) && !Modifier.isPublic(modifiers));
    }

    /** Every field or method of others that the class names must be in the library. */
    private static void names(Class<?> inside) throws IOException {
        ClassFile file = new ClassFile(inside);
        for (String name : file.named) {
            boolean isOwn = name.startsWith("Pagerloom") || name.startsWith("[LPagerloom");
            Check.due(inside + " may name " + name, true, isOwn || LIBRARY.contains(name));
        }
        for (int floating : new int[] {4, 6}) {
            Check.due(inside + " has constants of the tag " + floating, false, file.tags.get(floating));
        }
    }

    private static void source() throws IOException {
        String text = Files.readString(SOURCE);
        for (int i = 0; i < text.length(); i++) {
            char c = text.charAt(i);
            Check.due("a sign of 1 to 127 at " + i, true, c >= 1 && c <= 127);
        }
        for (String word : new String[] {"synchronized", "assert ", "finally", "try {", "catch", "->",
            "::", "package ", "while (true)", "for (;;)", "double", "float"}) {
            Check.due("the source has no " + word, false, text.contains(word));
        }
        int from = 0;
        String[] lines = text.split("\n");
        for (int i = 0; i < lines.length; i++) {
            if (lines[i].matches("( {4}| {8})[a-zA-Z].*\\) ?(throws .*)?\\{")
                    || lines[i].matches("( {4}| {8})[a-zA-Z].*\\)$")) {
                from = i;
            } else if (lines[i].matches("( {4}| {8})}") && from > 0) {
                Check.due("sixty lines at most from line " + (from + 1), true, i - from < 60);
                from = 0;
            }
            Check.due("a hundred chars at most in line " + (i + 1), true, lines[i].length() <= 100);
        }
    }

    /** The dearest run in objects: a tree of forty chars made anew in each call. */
    private static void room() {
        com.sun.management.ThreadMXBean threads =
                (com.sun.management.ThreadMXBean) ManagementFactory.getThreadMXBean();
        long before = threads.getCurrentThreadAllocatedBytes();
        Desk desk = new Desk().write("1+".repeat(19) + "11");
        while (desk.calls() < 512) {
            desk.ask(0, 0);
        }
        long bytes = threads.getCurrentThreadAllocatedBytes() - before;
        // A tenth of the room of 7.3 million fields, of four bytes each.
        Check.due("a run makes less than 2.9 MB: " + bytes, true, bytes < 2900000);
    }
}
