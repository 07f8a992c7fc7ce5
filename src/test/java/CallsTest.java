import java.io.IOException;
import java.util.ArrayList;
import java.util.HashSet;
import java.util.List;
import java.util.Map;
import java.util.Set;
import java.util.TreeMap;
import java.util.TreeSet;

/** Rules 6, 8, 11 and 12 of LANGUAGE.md, as far as the calls in the class files show them. */
public final class CallsTest {
    // Each method of the class, as "Pagerloom$Logs.pick", with those of the class that it calls.
    private static final Map<String, Set<String>> CALLS = new TreeMap<>();

    public static void main(String[] args) throws IOException {
        read(Pagerloom.class);
        for (Class<?> inside : Pagerloom.class.getDeclaredClasses()) {
            read(inside);
        }
        theReadingSeesTheCalls();
        depth();
        recursion();
        constructors();
        Check.end();
    }

    private static void read(Class<?> inside) throws IOException {
        ClassFile file = new ClassFile(inside);
        for (ClassFile.Method method : file.methods) {
            String name = file.name + "." + method.name;
            Check.due(name + " stands once", false, CALLS.containsKey(name));
            Set<String> own = new TreeSet<>(method.calls);
            own.removeIf(called -> !called.startsWith("Pagerloom"));
            CALLS.put(name, own);
            Check.due(name + " catches", 0, method.catches);
            Check.due(name + " casts", false, method.codes.get(ClassFile.CHECKCAST));
            Check.due(name + " locks", false, method.codes.get(ClassFile.MONITORENTER));
            boolean mayThrow = inside == Pagerloom.class && !method.name.equals("<init>");
            Check.due(name + " throws", false, method.codes.get(ClassFile.ATHROW) && !mayThrow);
        }
    }

    private static void theReadingSeesTheCalls() {
        Check.due("calls of askByCodes", "[Pagerloom$Coder.turn, Pagerloom$Logs.pick, "
                + "Pagerloom$Reader.read, Pagerloom$Runner.run, Pagerloom.isRange]",
                CALLS.get("Pagerloom.askByCodes").toString());
        for (Map.Entry<String, Set<String>> method : CALLS.entrySet()) {
            for (String called : method.getValue()) {
                Check.due(called + " was read", true, CALLS.containsKey(called));
            }
        }
    }

    /** The longest row of calls in which no method stands twice. */
    private static void depth() {
        for (String method : CALLS.keySet()) {
            List<String> longest = longestFrom(method, new HashSet<>());
            Check.due("eight calls deep at most: " + longest, true, longest.size() <= 8);
        }
    }

    private static List<String> longestFrom(String method, Set<String> open) {
        List<String> longest = List.of();
        open.add(method);
        for (String called : CALLS.getOrDefault(method, Set.of())) {
            if (!open.contains(called)) {
                List<String> below = longestFrom(called, open);
                longest = below.size() > longest.size() ? below : longest;
            }
        }
        open.remove(method);
        List<String> row = new ArrayList<>(List.of(method));
        row.addAll(longest);
        return row;
    }

    /** Only what reads a text, or goes down its tree, comes to itself again. */
    private static void recursion() {
        Set<String> due = new TreeSet<>(List.of("Pagerloom$Reader.readChain", "Pagerloom$Reader.readUnit",
                "Pagerloom$Reader.readTerm", "Pagerloom$Reader.readAggregate",
                "Pagerloom$Walker.valueOf", "Pagerloom$Walker.gathered"));
        Set<String> got = new TreeSet<>();
        for (String method : CALLS.keySet()) {
            if (reached(method).contains(method)) {
                got.add(method);
            }
        }
        Check.due("methods of a recursion", due.toString(), got.toString());
    }

    private static Set<String> reached(String method) {
        Set<String> all = new TreeSet<>();
        List<String> open = new ArrayList<>(List.of(method));
        while (!open.isEmpty()) {
            for (String called : CALLS.getOrDefault(open.remove(open.size() - 1), Set.of())) {
                if (all.add(called)) {
                    open.add(called);
                }
            }
        }
        return all;
    }

    private static void constructors() {
        for (Map.Entry<String, Set<String>> method : CALLS.entrySet()) {
            if (method.getKey().endsWith(".<init>")) {
                for (String called : method.getValue()) {
                    Check.due(method.getKey() + " calls constructors alone", true,
                            called.endsWith(".<init>"));
                }
            }
        }
    }
}
