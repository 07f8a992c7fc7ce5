import java.util.ArrayList;
import java.util.Comparator;
import java.util.HashMap;
import java.util.HashSet;
import java.util.List;
import java.util.Map;
import java.util.NoSuchElementException;
import java.util.Set;
import java.util.stream.Collectors;

/** The document told once more, in another way and without thrift, for comparing. */
final class Model {
    private static final class Log {
        int part;
        int level;
        int value;
        int hour;
        int number;
        int told;
    }

    private static final class Rule {
        String question;
        int owner;
        int window;
        int rest;
        int made;
        Integer dropped;
        final List<int[]> silences = new ArrayList<>();
    }

    private static final class Alarm {
        int rule;
        int hour;
        Integer woken;
        Integer wokenAt;
        boolean answered;
    }

    private final StringBuilder text = new StringBuilder();
    private final List<Log> logs = new ArrayList<>();
    private final List<Rule> rules = new ArrayList<>();
    private final List<Alarm> alarms = new ArrayList<>();
    private final Map<Integer, Integer> swaps = new HashMap<>();
    private final Set<String> offs = new HashSet<>();
    private final Map<Integer, Integer> holders = new HashMap<>();
    private final List<int[]> debts = new ArrayList<>();
    private int people = 0;
    private int now = 0;

    // ---- the language

    // The grammar of the document, the rests behind a first part told apart: X, Y, Z, V, W.
    private static final Map<Character, String[]> GRAMMAR = new HashMap<>();

    static {
        GRAMMAR.put('T', new String[] {"SX"});
        GRAMMAR.put('X', new String[] {"", "<S", ">S", "=S"});
        GRAMMAR.put('S', new String[] {"PY"});
        GRAMMAR.put('Y', new String[] {"", "+PY", "-PY"});
        GRAMMAR.put('P', new String[] {"UZ"});
        GRAMMAR.put('Z', new String[] {"", "*UZ", "/UZ"});
        GRAMMAR.put('U', new String[] {"N", "-U", "(T)", "A"});
        GRAMMAR.put('N', new String[] {"D", "DD", "DDD", "DDDD"});
        GRAMMAR.put('D', "0123456789".split(""));
        GRAMMAR.put('A', new String[] {"n()", "n(:C)", "G(F)", "G(F:C)"});
        GRAMMAR.put('G', "smxdt".split(""));
        GRAMMAR.put('F', "plvh".split(""));
        GRAMMAR.put('C', new String[] {"RV"});
        GRAMMAR.put('V', new String[] {"", "|RV"});
        GRAMMAR.put('R', new String[] {"EW"});
        GRAMMAR.put('W', new String[] {"", "&EW"});
        GRAMMAR.put('E', new String[] {"!E", "(C)", "FQN", "FQ-N"});
        GRAMMAR.put('Q', "<>=".split(""));
    }

    /** All that may follow, each row beginning with a char, or empty. */
    private static void open(String row, Set<String> into) {
        String[] choices = row.isEmpty() ? null : GRAMMAR.get(row.charAt(0));
        if (choices == null) {
            into.add(row);
            return;
        }
        for (String choice : choices) {
            open(choice + row.substring(1), into);
        }
    }

    static int errorOf(String text) {
        Set<String> rows = new HashSet<>();
        open("T", rows);
        for (int i = 0; i < text.length(); i++) {
            Set<String> then = new HashSet<>();
            for (String row : rows) {
                if (!row.isEmpty() && row.charAt(0) == text.charAt(i)) {
                    open(row.substring(1), then);
                }
            }
            if (then.isEmpty()) {
                return i;
            }
            rows = then;
        }
        return rows.contains("") ? -1 : text.length();
    }

    /** The places of signs outside of all brackets. */
    private static List<Integer> outside(String text, String signs) {
        List<Integer> places = new ArrayList<>();
        int depth = 0;
        for (int i = 0; i < text.length(); i++) {
            char c = text.charAt(i);
            depth += c == '(' ? 1 : c == ')' ? -1 : 0;
            if (depth == 0 && signs.indexOf(c) >= 0) {
                places.add(i);
            }
        }
        return places;
    }

    private static long test(String text, List<Log> logs) {
        for (int at : outside(text, "<>=")) {
            long a = sum(text.substring(0, at), logs);
            long b = sum(text.substring(at + 1), logs);
            return compare(text.charAt(at), a, b) ? 1 : 0;
        }
        return sum(text, logs);
    }

    private static boolean compare(char sign, long a, long b) {
        return sign == '<' ? a < b : sign == '>' ? a > b : a == b;
    }

    private static long sum(String text, List<Log> logs) {
        List<Integer> places = outside(text, "+-");
        for (int i = places.size() - 1; i >= 0; i--) {
            int at = places.get(i);
            if (at == 0 || "+-*/".indexOf(text.charAt(at - 1)) >= 0) {
                continue;
            }
            long a = sum(text.substring(0, at), logs);
            long b = product(text.substring(at + 1), logs);
            return text.charAt(at) == '+' ? a + b : a - b;
        }
        return product(text, logs);
    }

    private static long product(String text, List<Log> logs) {
        List<Integer> places = outside(text, "*/");
        if (places.isEmpty()) {
            return unit(text, logs);
        }
        int at = places.get(places.size() - 1);
        long a = product(text.substring(0, at), logs);
        long b = unit(text.substring(at + 1), logs);
        return text.charAt(at) == '*' ? a * b : b == 0 ? 0 : a / b;
    }

    private static long unit(String text, List<Log> logs) {
        char first = text.charAt(0);
        if (first == '-') {
            return -unit(text.substring(1), logs);
        }
        if (first == '(') {
            return test(text.substring(1, text.length() - 1), logs);
        }
        if (Character.isDigit(first)) {
            return Long.parseLong(text);
        }
        String inner = text.substring(2, text.length() - 1);
        int colon = inner.indexOf(':');
        List<Log> held = colon < 0 ? logs : logs.stream()
                .filter(log -> choice(inner.substring(colon + 1), log)).collect(Collectors.toList());
        if (first == 'n') {
            return held.size();
        }
        return aggregate(first, held.stream().map(log -> field(inner.charAt(0), log))
                .collect(Collectors.toList()));
    }

    private static long aggregate(char kind, List<Integer> values) {
        switch (kind) {
            case 's':
                return values.stream().mapToLong(v -> v).sum();
            case 'm':
                return values.stream().mapToLong(v -> v).min().orElse(0);
            case 'x':
                return values.stream().mapToLong(v -> v).max().orElse(0);
            case 'd':
                return values.stream().distinct().count();
            default:
                long best = 0;
                int most = 0;
                for (int value : values) {
                    int times = java.util.Collections.frequency(values, value);
                    if (times > most) {
                        most = times;
                        best = value;
                    }
                }
                return best;
        }
    }

    private static int field(char field, Log log) {
        return field == 'p' ? log.part : field == 'l' ? log.level : field == 'v' ? log.value
                : log.hour % 24;
    }

    private static boolean choice(String text, Log log) {
        for (String sign : new String[] {"|", "&"}) {
            for (int at : outside(text, sign)) {
                boolean a = choice(text.substring(0, at), log);
                boolean b = choice(text.substring(at + 1), log);
                return sign.equals("|") ? a || b : a && b;
            }
        }
        if (text.charAt(0) == '!') {
            return !choice(text.substring(1), log);
        }
        if (text.charAt(0) == '(') {
            return choice(text.substring(1, text.length() - 1), log);
        }
        return compare(text.charAt(1), field(text.charAt(0), log), Long.parseLong(text.substring(2)));
    }

    private List<Log> told(int from, int to, int ahead) {
        return logs.stream().filter(log -> log.hour >= from && log.hour <= to && log.told < ahead)
                .sorted(Comparator.comparingInt((Log log) -> log.hour).thenComparingInt(log -> log.number))
                .collect(Collectors.toList());
    }

    // ---- exceptions

    private static void range(boolean holds) {
        if (!holds) {
            throw new IllegalArgumentException();
        }
    }

    private static void state(boolean holds) {
        if (!holds) {
            throw new IllegalStateException();
        }
    }

    private static void exists(int number, int count) {
        if (number < 0 || number >= count) {
            throw new IndexOutOfBoundsException();
        }
    }

    // ---- the face

    int type(char sign) {
        range(sign >= 32 && sign <= 126);
        state(text.length() < 40);
        return text.append(sign).length();
    }

    int clearText() {
        int had = text.length();
        text.setLength(0);
        return had;
    }

    int errorAt() {
        return errorOf(text.toString());
    }

    long ask(int from, int to) {
        range(from >= 0 && from <= now && to >= from && to <= now);
        state(errorAt() < 0);
        return test(text.toString(), told(from, to, now + 1));
    }

    int pass(int hours) {
        range(hours >= 1 && hours <= 24);
        state(now + hours <= 1000);
        int before = alarms.size();
        for (int i = 0; i < hours; i++) {
            now++;
            if (now % 8 == 0) {
                begin(now / 8);
            }
            for (int rule = 0; rule < rules.size(); rule++) {
                if (rules.get(rule).dropped == null && due(rule)) {
                    rise(rule);
                }
            }
        }
        return alarms.size() - before;
    }

    private void begin(int shift) {
        int[] debt = debtFor(shift);
        int holder = toHold(shift);
        debts.remove(debt);
        holders.put(shift, holder);
        if (holder >= 0) {
            for (Alarm alarm : alarms) {
                if (alarm.woken == null) {
                    alarm.woken = holder;
                    alarm.wokenAt = now;
                }
            }
        }
    }

    private boolean due(int number) {
        Rule rule = rules.get(number);
        for (int i = alarms.size() - 1; i >= 0; i--) {
            if (alarms.get(i).rule == number && now - alarms.get(i).hour <= rule.rest) {
                return false;
            }
        }
        for (int[] silence : rule.silences) {
            if (silence[0] <= now && now <= silence[1]) {
                return false;
            }
        }
        return test(rule.question, told(now - rule.window + 1, now, now + 1)) != 0;
    }

    private void rise(int rule) {
        Alarm alarm = new Alarm();
        alarm.rule = rule;
        alarm.hour = now;
        int holder = holders.getOrDefault(now / 8, -1);
        if (holder >= 0) {
            alarm.woken = holder;
            alarm.wokenAt = now;
        }
        alarms.add(alarm);
    }

    int now() {
        return now;
    }

    int log(int part, int level, int value, int hour) {
        range(part >= 0 && part <= 7 && level >= 0 && level <= 5);
        range(value >= -1000 && value <= 1000 && hour >= 0 && hour <= now);
        state(logs.size() < 100);
        Log log = new Log();
        log.part = part;
        log.level = level;
        log.value = value;
        log.hour = hour;
        log.told = now;
        log.number = logs.size();
        logs.add(log);
        return log.number;
    }

    int addPerson() {
        state(people < 8);
        return people++;
    }

    private boolean isOff(int person, int shift) {
        return offs.contains(person + " " + shift);
    }

    private boolean toCome(int shift) {
        return shift > now / 8 && shift <= 125;
    }

    boolean off(int person, int shift) {
        exists(person, people);
        range(toCome(shift));
        String key = person + " " + shift;
        if (!offs.remove(key)) {
            offs.add(key);
        }
        return offs.contains(key);
    }

    private int plan(int shift) {
        return swaps.containsKey(shift) ? swaps.get(shift) : people == 0 ? -1 : shift % people;
    }

    void swap(int shift, int other) {
        range(toCome(shift) && toCome(other) && shift != other);
        int first = plan(shift);
        int second = plan(other);
        state(people > 0 && first != second && !isOff(first, other) && !isOff(second, shift));
        swaps.put(shift, second);
        swaps.put(other, first);
    }

    int planned(int shift) {
        range(toCome(shift));
        return plan(shift);
    }

    private int[] debtFor(int shift) {
        if (people == 0 || shift % 3 != 0 || isOff(plan(shift), shift)) {
            return null;
        }
        for (int[] debt : debts) {
            if (debt[1] == plan(shift) && !isOff(debt[0], shift)) {
                return debt;
            }
        }
        return null;
    }

    private int toHold(int shift) {
        int[] debt = debtFor(shift);
        if (debt != null) {
            return debt[0];
        }
        int person = plan(shift);
        for (int tries = 0; tries < people; tries++) {
            if (!isOff(person, shift)) {
                return person;
            }
            person = person == people - 1 ? 0 : person + 1;
        }
        return -1;
    }

    int next() {
        int shift = now / 8 + 1;
        return shift > 125 ? -1 : toHold(shift);
    }

    int holder(int shift) {
        range(shift >= 0 && shift <= now / 8);
        return holders.getOrDefault(shift, -1);
    }

    int nights(int person) {
        exists(person, people);
        return (int) holders.entrySet().stream()
                .filter(e -> e.getKey() % 3 == 0 && e.getValue() == person).count();
    }

    int owes(int person, int other) {
        exists(person, people);
        exists(other, people);
        return (int) debts.stream().filter(d -> d[0] == person && d[1] == other).count();
    }

    int addRule(int owner, int window, int rest) {
        exists(owner, people);
        range(window >= 1 && window <= 72 && rest >= 0 && rest <= 72);
        state(errorAt() < 0 && rules.size() < 4);
        Rule rule = new Rule();
        rule.question = text.toString();
        rule.owner = owner;
        rule.window = window;
        rule.rest = rest;
        rule.made = now;
        rules.add(rule);
        return rules.size() - 1;
    }

    int drop(int rule) {
        exists(rule, rules.size());
        state(rules.get(rule).dropped == null);
        rules.get(rule).dropped = now;
        return rises(rule);
    }

    int silence(int rule, int from, int to) {
        exists(rule, rules.size());
        range(from >= now + 1 && from <= 1000 && to >= from && to <= 1000);
        List<int[]> silences = rules.get(rule).silences;
        state(silences.size() < 5);
        silences.add(new int[] {from, to});
        return silences.size();
    }

    int inWindow(int rule) {
        exists(rule, rules.size());
        return told(now - rules.get(rule).window + 1, now, now + 1).size();
    }

    int rises(int rule) {
        exists(rule, rules.size());
        return (int) alarms.stream().filter(alarm -> alarm.rule == rule).count();
    }

    int alarms() {
        return alarms.size();
    }

    int waiting() {
        return (int) alarms.stream().filter(alarm -> alarm.woken == null).count();
    }

    int alarm(int alarm) {
        exists(alarm, alarms.size());
        return 10000 * alarms.get(alarm).rule + alarms.get(alarm).hour;
    }

    int woken(int alarm) {
        exists(alarm, alarms.size());
        return alarms.get(alarm).woken == null ? -1 : alarms.get(alarm).woken;
    }

    int wokenAt(int alarm) {
        exists(alarm, alarms.size());
        if (alarms.get(alarm).wokenAt == null) {
            throw new NoSuchElementException();
        }
        return alarms.get(alarm).wokenAt;
    }

    int answer(int number, boolean isVain) {
        exists(number, alarms.size());
        Alarm alarm = alarms.get(number);
        state(alarm.woken != null && !alarm.answered);
        alarm.answered = true;
        int owner = rules.get(alarm.rule).owner;
        if (isVain && alarm.wokenAt % 24 < 8 && alarm.woken != owner) {
            debts.add(new int[] {owner, alarm.woken});
        }
        return debts.size();
    }

    boolean wouldRise(int number) {
        exists(number, alarms.size());
        Alarm alarm = alarms.get(number);
        Rule rule = rules.get(alarm.rule);
        return test(rule.question, told(alarm.hour - rule.window + 1, alarm.hour, now + 1)) != 0;
    }
}
