import java.io.IOException;
import java.lang.reflect.Method;
import java.nio.file.Files;
import java.nio.file.Path;
import java.util.ArrayList;
import java.util.LinkedHashMap;
import java.util.List;
import java.util.Map;

/**
 * Each test quotes the words that it looks at: these must stand in the part of the document that the
 * test is named after, and there must be a test for each line of a promise and each sentence of the
 * terms.
 */
public final class DocumentTest {
    private static final Path DOCUMENT = Path.of("../shared/DOC.md");

    private static final Class<?>[] OF_PROMISES = {PromisesOfTextTest.class, PromisesOfHoursTest.class,
        PromisesOfRotaTest.class, PromisesOfRulesTest.class, PromisesOfAlarmsTest.class};

    private static String document;

    public static void main(String[] args) throws IOException {
        document = Files.readString(DOCUMENT);
        promises();
        terms(TermsHoursTest.class, "\nHours, shifts and logs\n", "\n### The language\n");
        terms(TermsLanguageTest.class, "\n### The language\n", "\nPeople, rota, shifts\n");
        terms(TermsRotaTest.class, "\nPeople, rota, shifts\n", "\n### Rules and alarms\n");
        terms(TermsRulesTest.class, "\n### Rules and alarms\n", "\n### Exceptions\n");
        terms(TermsExceptionsTest.class, "\n### Exceptions\n", "\nThe constants:");
        Check.end();
    }

    private static String between(String begin, String end) {
        int from = document.indexOf(begin);
        int to = document.indexOf(end, from + begin.length());
        Check.due("the document has" + begin + "and" + end, true, from >= 0 && to > from);
        return document.substring(from + begin.length(), to);
    }

    private static void promises() {
        Map<String, List<String>> quotes = new LinkedHashMap<>();
        for (Class<?> tests : OF_PROMISES) {
            for (Method test : Check.testsOf(tests)) {
                boolean isNamed = test.getName().matches("promise[0-9][0-9][A-Z].*");
                Check.due(test + " is named after its promise", true, isNamed);
                quotes.computeIfAbsent(test.getName().substring(7, 9), key -> new ArrayList<>())
                        .add(test.getAnnotation(Says.class).value());
            }
        }
        for (int promise = 1; promise <= 30; promise++) {
            String end = promise == 30 ? "\n## Not promised" : "\n## Promise " + (promise + 1) + ":";
            String part = between("\n## Promise " + promise + ":", end);
            // Its first line is the heading.
            part = part.substring(part.indexOf('\n'));
            String key = (promise < 10 ? "0" : "") + promise;
            same("promise " + promise, part, part.split("\n"), quotes.getOrDefault(key, List.of()));
        }
    }

    private static void terms(Class<?> tests, String begin, String end) {
        List<String> quotes = new ArrayList<>();
        for (Method test : Check.testsOf(tests)) {
            String quote = test.getAnnotation(Says.class).value();
            // The one sentence of boundaries that stands ahead of the terms.
            if (!between("\n## What it is\n", "\n## The public face").contains(quote)) {
                quotes.add(quote);
            }
        }
        String part = between(begin, end);
        same(begin.trim(), part, part.split("\n|(?<=\\.) "), quotes);
    }

    /** The quotes stand in a part of the document, and each piece of it has one. */
    private static void same(String name, String part, String[] pieces, List<String> quotes) {
        for (String quote : quotes) {
            Check.due(name + " says: " + quote, true, part.contains(quote));
        }
        for (String piece : pieces) {
            boolean isTested = piece.isBlank();
            for (String quote : quotes) {
                isTested |= piece.contains(quote) || quote.contains(piece);
            }
            Check.due(name + " has a test of: " + piece, true, isTested);
        }
    }
}
