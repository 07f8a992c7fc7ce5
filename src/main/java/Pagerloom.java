import java.util.Arrays;
import java.util.NoSuchElementException;

/**
 * An incident desk: logs, a small log language, rules that ask its questions hour by hour, a rota
 * that tells who is woken, and the debts of rules that wake somebody in vain.
 */
public final class Pagerloom {
    /** There is none. */
    public static final int NONE = -1;

    private static final int FIRST_SIGN = 32;
    private static final int LAST_SIGN = 126;
    private static final int MOST_CHARS = 40;
    private static final int MOST_DIGITS = 4;
    // Every level below another one takes a char of the text, so that no text goes deeper.
    private static final int DEEPEST = MOST_CHARS;

    private static final int LAST_HOUR = 1000;
    private static final int DAY_HOURS = 24;
    private static final int SHIFT_HOURS = 8;
    private static final int SHIFTS = LAST_HOUR / SHIFT_HOURS + 1;
    private static final int SHIFTS_FROM_NIGHT_TO_NIGHT = 3;
    private static final int MOST_HOURS_PASSED = 24;

    private static final int MOST_LOGS = 100;
    private static final int LAST_PART = 7;
    private static final int LAST_LEVEL = 5;
    private static final int GREATEST_VALUE = 1000;

    private static final int MOST_PEOPLE = 8;
    private static final int MOST_RULES = 4;
    private static final int MOST_SILENCES = 5;
    private static final int LONGEST_WINDOW = 72;
    private static final int LONGEST_REST = 72;
    // A rule raises one alarm an hour at most, and the hour 0 never comes.
    private static final int MOST_ALARMS = MOST_RULES * LAST_HOUR;
    private static final int RULE_FACTOR = 10000;

    // The kinds of a question's parts are the signs that stand for them in the text; these two have
    // no sign of their own there, and theirs stand in no question.
    private static final int NUMBER = '#';
    private static final int NEGATE = '~';

    private final char[] text = new char[MOST_CHARS];
    private int length = 0;
    private int nowHour = 0;
    private final Rule[] rules = new Rule[MOST_RULES];
    private int ruleCount = 0;
    private final Logs logs = new Logs();
    private final Rota rota = new Rota();
    private final Alarms alarmList = new Alarms();
    private final Reader reader = new Reader();
    private final Coder coder = new Coder();
    private final Walker walker = new Walker();
    private final Runner runner = new Runner();

    public Pagerloom() {
    }

    // ---- the text and questions

    public int type(char sign) throws IllegalArgumentException, IllegalStateException {
        if (sign < FIRST_SIGN || sign > LAST_SIGN) {
            throw new IllegalArgumentException("sign is out of range");
        }
        if (length < 0 || length >= text.length) {
            throw new IllegalStateException("the text is full");
        }
        text[length] = sign;
        length++;
        return length;
    }

    public int clearText() {
        int had = length;
        length = 0;
        return had;
    }

    public int errorAt() {
        return reader.read(text, length) == null ? reader.place() : NONE;
    }

    public long ask(int from, int to) throws IllegalArgumentException, IllegalStateException {
        if (!isRange(from, to, 0, nowHour)) {
            throw new IllegalArgumentException("from or to is out of range");
        }
        Node question = reader.read(text, length);
        if (question == null) {
            throw new IllegalStateException("the text is no question");
        }
        logs.pick(from, to, nowHour);
        return walker.run(question, logs);
    }

    public long askByCodes(int from, int to)
            throws IllegalArgumentException, IllegalStateException {
        if (!isRange(from, to, 0, nowHour)) {
            throw new IllegalArgumentException("from or to is out of range");
        }
        if (reader.read(text, length) == null) {
            throw new IllegalStateException("the text is no question");
        }
        coder.turn(text, length);
        logs.pick(from, to, nowHour);
        return runner.run(coder.codes, coder.size, logs);
    }

    // ---- hours and logs

    public int pass(int hours) throws IllegalArgumentException, IllegalStateException {
        if (!isIn(hours, 1, MOST_HOURS_PASSED)) {
            throw new IllegalArgumentException("hours is out of range");
        }
        if (hours > LAST_HOUR - nowHour) {
            throw new IllegalStateException("it would be later than the last hour");
        }
        int before = alarmList.count;
        for (int i = 0; i < hours; i++) {
            comeHour();
        }
        return alarmList.count - before;
    }

    public int now() {
        return nowHour;
    }

    public int log(int part, int level, int value, int hour)
            throws IllegalArgumentException, IllegalStateException {
        if (!isIn(part, 0, LAST_PART) || !isIn(level, 0, LAST_LEVEL)) {
            throw new IllegalArgumentException("part or level is out of range");
        }
        if (!isIn(value, -GREATEST_VALUE, GREATEST_VALUE) || !isIn(hour, 0, nowHour)) {
            throw new IllegalArgumentException("value or hour is out of range");
        }
        if (logs.count >= MOST_LOGS) {
            throw new IllegalStateException("there are as many logs as can be");
        }
        return logs.add(part, level, value, hour, nowHour);
    }

    // ---- people and the rota

    public int addPerson() throws IllegalStateException {
        if (rota.people >= MOST_PEOPLE) {
            throw new IllegalStateException("there are as many people as can be");
        }
        rota.people++;
        return rota.people - 1;
    }

    public boolean off(int person, int shift)
            throws IndexOutOfBoundsException, IllegalArgumentException {
        if (!rota.hasPerson(person)) {
            throw new IndexOutOfBoundsException("no such person");
        }
        if (!isToCome(shift)) {
            throw new IllegalArgumentException("shift is out of range");
        }
        rota.turnOff(person, shift);
        return rota.isOff(person, shift);
    }

    public void swap(int shift, int other) throws IllegalArgumentException, IllegalStateException {
        if (!isToCome(shift) || !isToCome(other) || shift == other) {
            throw new IllegalArgumentException("shift or other is out of range, or the same");
        }
        int first = rota.plannedFor(shift);
        int second = rota.plannedFor(other);
        if (first == second) {
            throw new IllegalStateException("nobody, or the same person, is planned for both");
        }
        if (rota.isOff(first, other) || rota.isOff(second, shift)) {
            throw new IllegalStateException("one of the two is off in the shift it would get");
        }
        rota.give(shift, second);
        rota.give(other, first);
    }

    public int planned(int shift) throws IllegalArgumentException {
        if (!isToCome(shift)) {
            throw new IllegalArgumentException("shift is out of range");
        }
        return rota.plannedFor(shift);
    }

    public int next() {
        int shift = nowHour / SHIFT_HOURS + 1;
        return isToCome(shift) ? rota.holderToBe(shift) : NONE;
    }

    public int holder(int shift) throws IllegalArgumentException {
        if (!isIn(shift, 0, nowHour / SHIFT_HOURS)) {
            throw new IllegalArgumentException("shift is out of range");
        }
        return rota.holderOf(shift);
    }

    public int nights(int person) throws IndexOutOfBoundsException {
        if (!rota.hasPerson(person)) {
            throw new IndexOutOfBoundsException("no such person");
        }
        return rota.nightsOf(person);
    }

    public int owes(int person, int other) throws IndexOutOfBoundsException {
        if (!rota.hasPerson(person) || !rota.hasPerson(other)) {
            throw new IndexOutOfBoundsException("no such person");
        }
        return rota.debtsOf(person, other);
    }

    // ---- rules

    public int addRule(int owner, int window, int rest)
            throws IndexOutOfBoundsException, IllegalArgumentException, IllegalStateException {
        if (!rota.hasPerson(owner)) {
            throw new IndexOutOfBoundsException("no such person");
        }
        if (!isIn(window, 1, LONGEST_WINDOW) || !isIn(rest, 0, LONGEST_REST)) {
            throw new IllegalArgumentException("window or rest is out of range");
        }
        Node question = reader.read(text, length);
        if (question == null) {
            throw new IllegalStateException("the text is no question");
        }
        if (ruleCount < 0 || ruleCount >= rules.length) {
            throw new IllegalStateException("there are as many rules as can be");
        }
        rules[ruleCount] = new Rule(question, owner, window, rest, nowHour);
        ruleCount++;
        return ruleCount - 1;
    }

    public int drop(int rule) throws IndexOutOfBoundsException, IllegalStateException {
        Rule dropped = ruleAt(rule);
        if (dropped == null) {
            throw new IndexOutOfBoundsException("no such rule");
        }
        if (dropped.isDropped()) {
            throw new IllegalStateException("the rule was dropped");
        }
        dropped.lastHour = nowHour;
        return dropped.riseCount;
    }

    public int silence(int rule, int from, int to)
            throws IndexOutOfBoundsException, IllegalArgumentException, IllegalStateException {
        Rule silent = ruleAt(rule);
        if (silent == null) {
            throw new IndexOutOfBoundsException("no such rule");
        }
        if (!isRange(from, to, nowHour + 1, LAST_HOUR)) {
            throw new IllegalArgumentException("from or to is out of range");
        }
        if (silent.silences >= MOST_SILENCES) {
            throw new IllegalStateException("the rule has as many silences as can be");
        }
        silent.addSilence(from, to);
        return silent.silences;
    }

    public int inWindow(int rule) throws IndexOutOfBoundsException {
        Rule asked = ruleAt(rule);
        if (asked == null) {
            throw new IndexOutOfBoundsException("no such rule");
        }
        pickWindow(asked, nowHour, nowHour);
        return logs.picks;
    }

    public int rises(int rule) throws IndexOutOfBoundsException {
        Rule counted = ruleAt(rule);
        if (counted == null) {
            throw new IndexOutOfBoundsException("no such rule");
        }
        return counted.riseCount;
    }

    public int risesAnew(int rule) throws IndexOutOfBoundsException {
        Rule counted = ruleAt(rule);
        if (counted == null) {
            throw new IndexOutOfBoundsException("no such rule");
        }
        int end = counted.isDropped() ? counted.lastHour : nowHour;
        int count = 0;
        int lastRise = NONE;
        for (int then = counted.madeIn + 1; then <= end; then++) {
            if (isDue(counted, then, lastRise)) {
                lastRise = then;
                count++;
            }
        }
        return count;
    }

    // ---- alarms

    public int alarms() {
        return alarmList.count;
    }

    public int waiting() {
        return alarmList.count - alarmList.wokenCount;
    }

    public int alarm(int alarm) throws IndexOutOfBoundsException {
        if (!alarmList.has(alarm)) {
            throw new IndexOutOfBoundsException("no such alarm");
        }
        return RULE_FACTOR * alarmList.rules[alarm] + alarmList.hours[alarm];
    }

    public int woken(int alarm) throws IndexOutOfBoundsException {
        if (!alarmList.has(alarm)) {
            throw new IndexOutOfBoundsException("no such alarm");
        }
        return alarmList.waits(alarm) ? NONE : alarmList.woken[alarm];
    }

    public int wokenAt(int alarm) throws IndexOutOfBoundsException, NoSuchElementException {
        if (!alarmList.has(alarm)) {
            throw new IndexOutOfBoundsException("no such alarm");
        }
        if (alarmList.waits(alarm)) {
            throw new NoSuchElementException("the alarm waits");
        }
        return alarmList.wokenIn[alarm];
    }

    public int answer(int alarm, boolean isVain)
            throws IndexOutOfBoundsException, IllegalStateException {
        if (!alarmList.has(alarm)) {
            throw new IndexOutOfBoundsException("no such alarm");
        }
        if (alarmList.waits(alarm) || alarmList.isAnswered[alarm]) {
            throw new IllegalStateException("the alarm waits, or was answered");
        }
        alarmList.isAnswered[alarm] = true;
        if (isVain && isNight(alarmList.wokenIn[alarm] / SHIFT_HOURS)) {
            oweForAlarm(alarm);
        }
        return rota.debts;
    }

    public boolean wouldRise(int alarm) throws IndexOutOfBoundsException {
        if (!alarmList.has(alarm)) {
            throw new IndexOutOfBoundsException("no such alarm");
        }
        Rule rule = ruleAt(alarmList.rules[alarm]);
        if (rule == null) {
            return false;
        }
        pickWindow(rule, alarmList.hours[alarm], nowHour);
        return walker.run(rule.question, logs) != 0;
    }

    // ---- what the calls stand on

    private void comeHour() {
        nowHour++;
        int shift = nowHour / SHIFT_HOURS;
        if (nowHour % SHIFT_HOURS == 0) {
            rota.begin(shift);
            alarmList.wakeAll(rota.holderOf(shift), nowHour);
        }
        for (int i = 0; i < ruleCount; i++) {
            Rule rule = ruleAt(i);
            if (rule != null && !rule.isDropped() && isDue(rule, nowHour, rule.lastRise)) {
                rule.lastRise = nowHour;
                rule.riseCount++;
                alarmList.add(i, nowHour);
                // If the shift has a holder, the new alarm is the only one that waits.
                alarmList.wakeAll(rota.holderOf(shift), nowHour);
            }
        }
    }

    /** Whether a rule raises an alarm in an hour, by the logs that were told when it came. */
    private boolean isDue(Rule rule, int then, int lastRise) {
        if (!rule.hasRested(then, lastRise) || rule.isSilentIn(then)) {
            return false;
        }
        // A rule is asked when its hour comes: what is told in that hour is told too late for it.
        pickWindow(rule, then, then - 1);
        return walker.run(rule.question, logs) != 0;
    }

    private void pickWindow(Rule rule, int lastHour, int toldBy) {
        logs.pick(Math.max(0, lastHour - rule.window + 1), lastHour, toldBy);
    }

    private void oweForAlarm(int alarm) {
        if (!alarmList.has(alarm)) {
            return;
        }
        Rule rule = ruleAt(alarmList.rules[alarm]);
        int person = alarmList.woken[alarm];
        if (rule != null && rule.owner != person) {
            rota.addDebt(rule.owner, person);
        }
    }

    private Rule ruleAt(int rule) {
        return rule >= 0 && rule < ruleCount && rule < rules.length ? rules[rule] : null;
    }

    private boolean isToCome(int shift) {
        return shift > nowHour / SHIFT_HOURS && shift < SHIFTS;
    }

    private static boolean isIn(int number, int least, int greatest) {
        return number >= least && number <= greatest;
    }

    private static boolean isRange(int from, int to, int least, int greatest) {
        return isIn(from, least, greatest) && isIn(to, from, greatest);
    }

    private static boolean isNight(int shift) {
        return shift % SHIFTS_FROM_NIGHT_TO_NIGHT == 0;
    }

    private static boolean isDigit(int sign) {
        return sign >= '0' && sign <= '9';
    }

    private static boolean isField(int sign) {
        return sign == 'p' || sign == 'l' || sign == 'v' || sign == 'h';
    }

    private static boolean isComparison(int sign) {
        return sign == '<' || sign == '>' || sign == '=';
    }

    private static boolean isAggregate(int sign) {
        switch (sign) {
            case 'n':
            case 's':
            case 'm':
            case 'x':
            case 'd':
            case 't':
                return true;
            default:
                return false;
        }
    }

    private static long combined(int sign, long a, long b) {
        switch (sign) {
            case '+':
                return a + b;
            case '-':
                return a - b;
            case '*':
                return a * b;
            case '/':
                return b == 0 ? 0 : a / b;
            case '<':
                return a < b ? 1 : 0;
            case '>':
                return a > b ? 1 : 0;
            case '=':
                return a == b ? 1 : 0;
            case '&':
                return a != 0 && b != 0 ? 1 : 0;
            case '|':
                return a != 0 || b != 0 ? 1 : 0;
            default:
                return 0;
        }
    }

    /** The logs that were told, and those of them that were picked for the next question. */
    private static final class Logs {
        final int[] parts = new int[MOST_LOGS];
        final int[] levels = new int[MOST_LOGS];
        final int[] values = new int[MOST_LOGS];
        final int[] hours = new int[MOST_LOGS];
        final int[] toldIn = new int[MOST_LOGS];
        // The numbers of the logs, in the order of the logs.
        final int[] order = new int[MOST_LOGS];
        // How many logs there are ahead of each hour: a window is found without going through all.
        final int[] ahead = new int[LAST_HOUR + 2];
        final int[] picked = new int[MOST_LOGS];
        int count = 0;
        int picks = 0;

        int add(int part, int level, int value, int hour, int told) {
            if (count < 0 || count >= MOST_LOGS || !isIn(hour, 0, LAST_HOUR)) {
                return NONE;
            }
            parts[count] = part;
            levels[count] = level;
            values[count] = value;
            hours[count] = hour;
            toldIn[count] = told;
            putInOrder(count, hour);
            count++;
            return count - 1;
        }

        private void putInOrder(int log, int hour) {
            if (!isIn(hour, 0, LAST_HOUR) || !isIn(log, 0, MOST_LOGS - 1)) {
                return;
            }
            int place = ahead[hour + 1];
            if (!isIn(place, 0, log)) {
                return;
            }
            for (int i = log; i > place; i--) {
                order[i] = order[i - 1];
            }
            order[place] = log;
            for (int i = hour + 1; i < ahead.length; i++) {
                ahead[i]++;
            }
        }

        /** Picks the logs of some hours, of those that were told in the hour toldBy or before. */
        void pick(int from, int to, int toldBy) {
            picks = 0;
            if (!isRange(from, to, 0, LAST_HOUR)) {
                return;
            }
            int end = Math.min(ahead[to + 1], count);
            for (int i = Math.max(0, ahead[from]); i < end && i < order.length; i++) {
                int log = order[i];
                if (isIn(log, 0, MOST_LOGS - 1) && toldIn[log] <= toldBy && picks < MOST_LOGS) {
                    picked[picks] = log;
                    picks++;
                }
            }
        }

        int fieldOf(int field, int log) {
            if (log < 0 || log >= count || log >= MOST_LOGS) {
                return 0;
            }
            switch (field) {
                case 'p':
                    return parts[log];
                case 'l':
                    return levels[log];
                case 'v':
                    return values[log];
                case 'h':
                    return hours[log] % DAY_HOURS;
                default:
                    return 0;
            }
        }
    }

    /** What an aggregate has seen of a field's values, in the order of the logs. */
    private static final class Tally {
        private final int[] seen = new int[MOST_LOGS];
        private int count = 0;
        private long sum = 0;
        private int least = 0;
        private int greatest = 0;
        private int unlike = 0;
        // How often each value was seen, the least value of all first.
        private final int[] times = new int[2 * GREATEST_VALUE + 1];

        void clear() {
            for (int i = 0; i < count && i < seen.length; i++) {
                int at = seen[i] + GREATEST_VALUE;
                if (at >= 0 && at < times.length) {
                    times[at] = 0;
                }
            }
            count = 0;
            sum = 0;
            least = 0;
            greatest = 0;
            unlike = 0;
        }

        void add(int value) {
            int at = value + GREATEST_VALUE;
            if (at < 0 || at >= times.length || count < 0 || count >= seen.length) {
                return;
            }
            sum += value;
            least = count == 0 ? value : Math.min(least, value);
            greatest = count == 0 ? value : Math.max(greatest, value);
            unlike += times[at] == 0 ? 1 : 0;
            times[at]++;
            seen[count] = value;
            count++;
        }

        long result(int kind) {
            switch (kind) {
                case 'n':
                    return count;
                case 's':
                    return sum;
                case 'm':
                    return least;
                case 'x':
                    return greatest;
                case 'd':
                    return unlike;
                case 't':
                    return mostOften();
                default:
                    return 0;
            }
        }

        private long mostOften() {
            int most = 0;
            long value = 0;
            for (int i = 0; i < count && i < seen.length; i++) {
                int at = seen[i] + GREATEST_VALUE;
                if (at >= 0 && at < times.length && times[at] > most) {
                    most = times[at];
                    value = seen[i];
                }
            }
            return value;
        }
    }

    /**
     * A part of a question's tree. A sign has its parts on the left and on the right, one with a
     * single part has it on the left; an aggregate has its field on the left and its choice on the
     * right.
     */
    private static final class Node {
        final int kind;
        final int number;
        final Node left;
        final Node right;

        Node(int kind, int number, Node left, Node right) {
            this.kind = kind;
            this.number = number;
            this.left = left;
            this.right = right;
        }
    }

    /** Reads a text into a tree, and stops at the first char with which no question begins. */
    private static final class Reader {
        private static final int TEST = 0;
        private static final int SUM = 1;
        private static final int PRODUCT = 2;
        private static final int CHOICE = 3;
        private static final int GROUP = 4;

        private char[] text = new char[0];
        private int length = 0;
        private int at = 0;

        /** The tree of a text; null if it is no question. */
        Node read(char[] chars, int count) {
            text = chars;
            length = count;
            at = 0;
            Node whole = readChain(TEST, 0);
            return at < length ? null : whole;
        }

        /** Where the last reading ended: the error, if the text was no question. */
        int place() {
            return at;
        }

        private int here() {
            return at >= 0 && at < length && at < text.length ? text[at] : 0;
        }

        /** Reads parts of a level with the level's signs between them. */
        private Node readChain(int level, int depth) {
            int mostSigns = level == TEST ? 1 : MOST_CHARS;
            Node whole = null;
            int sign = 0;
            for (int signs = 0; signs <= mostSigns; signs++) {
                Node part = level == PRODUCT ? readUnit(depth)
                        : level == GROUP ? readTerm(depth)
                        : readChain(level + 1, depth);
                if (part == null) {
                    return null;
                }
                whole = signs == 0 ? part : new Node(sign, 0, whole, part);
                sign = here();
                if (signs == mostSigns || !isSignOf(level, sign)) {
                    return whole;
                }
                at++;
            }
            return null;
        }

        private static boolean isSignOf(int level, int sign) {
            switch (level) {
                case TEST:
                    return isComparison(sign);
                case SUM:
                    return sign == '+' || sign == '-';
                case PRODUCT:
                    return sign == '*' || sign == '/';
                case CHOICE:
                    return sign == '|';
                case GROUP:
                    return sign == '&';
                default:
                    return false;
            }
        }

        private Node readUnit(int depth) {
            if (depth > DEEPEST) {
                return null;
            }
            int sign = here();
            if (sign == '-') {
                at++;
                return before(NEGATE, readUnit(depth + 1));
            }
            if (sign == '(') {
                at++;
                return closed(readChain(TEST, depth + 1));
            }
            return isAggregate(sign) ? readAggregate(depth) : readNumber();
        }

        private Node readAggregate(int depth) {
            int kind = here();
            at++;
            if (here() != '(') {
                return null;
            }
            at++;
            Node field = null;
            if (kind != 'n') {
                field = readField();
                if (field == null) {
                    return null;
                }
            }
            Node choice = null;
            if (here() == ':') {
                at++;
                choice = readChain(CHOICE, depth + 1);
                if (choice == null) {
                    return null;
                }
            }
            return closed(new Node(kind, 0, field, choice));
        }

        private Node readTerm(int depth) {
            if (depth > DEEPEST) {
                return null;
            }
            int sign = here();
            if (sign == '!') {
                at++;
                return before(sign, readTerm(depth + 1));
            }
            if (sign == '(') {
                at++;
                return closed(readChain(CHOICE, depth + 1));
            }
            return readComparison();
        }

        private Node readComparison() {
            Node field = readField();
            int sign = here();
            if (field == null || !isComparison(sign)) {
                return null;
            }
            at++;
            boolean isNegative = here() == '-';
            if (isNegative) {
                at++;
            }
            Node number = readNumber();
            if (number == null) {
                return null;
            }
            return new Node(sign, 0, field, isNegative ? before(NEGATE, number) : number);
        }

        private Node readField() {
            int sign = here();
            if (!isField(sign)) {
                return null;
            }
            at++;
            return new Node(sign, 0, null, null);
        }

        private Node readNumber() {
            int number = 0;
            int digits = 0;
            while (digits < MOST_DIGITS && isDigit(here())) {
                number = 10 * number + (here() - '0');
                digits++;
                at++;
            }
            return digits == 0 ? null : new Node(NUMBER, number, null, null);
        }

        /** A sign before its only part; null if there is no part. */
        private static Node before(int sign, Node part) {
            return part == null ? null : new Node(sign, 0, part, null);
        }

        /** A part that a bracket ends; null if there is no part, or no bracket. */
        private Node closed(Node part) {
            if (part == null || here() != ')') {
                return null;
            }
            at++;
            return part;
        }
    }

    /** Runs a question over the picked logs, going down its tree. */
    private static final class Walker {
        private final Tally tally = new Tally();

        long run(Node question, Logs logs) {
            return valueOf(question, logs, NONE, 0);
        }

        /** The value of a part; the log is the one that a choice is asked about, NONE outside. */
        private long valueOf(Node node, Logs logs, int log, int depth) {
            if (node == null || depth > DEEPEST) {
                return 0;
            }
            if (isField(node.kind)) {
                return logs.fieldOf(node.kind, log);
            }
            if (isAggregate(node.kind)) {
                return gathered(node, logs, depth);
            }
            switch (node.kind) {
                case NUMBER:
                    return node.number;
                case NEGATE:
                    return -valueOf(node.left, logs, log, depth + 1);
                case '!':
                    return valueOf(node.left, logs, log, depth + 1) == 0 ? 1 : 0;
                default:
                    return combined(node.kind, valueOf(node.left, logs, log, depth + 1),
                            valueOf(node.right, logs, log, depth + 1));
            }
        }

        private long gathered(Node node, Logs logs, int depth) {
            tally.clear();
            for (int i = 0; i < logs.picks && i < logs.picked.length; i++) {
                int log = logs.picked[i];
                if (node.right == null || valueOf(node.right, logs, log, depth + 1) != 0) {
                    tally.add(node.left == null ? 0 : logs.fieldOf(node.left.kind, log));
                }
            }
            return tally.result(node.kind);
        }
    }

    /**
     * Turns the text of a question into a row of codes, each sign behind its parts. A number's code
     * is followed by the number; an aggregate's by its field (0 for none), by how many codes its
     * choice has, and by these.
     */
    private static final class Coder {
        private static final int AGGREGATE_CODES = 3;
        // Open brackets and aggregates have a lower one, so that no sign is taken from below them.
        private static final int LOWEST_RANK = 1;

        // A char of a text makes two codes at most.
        final int[] codes = new int[2 * MOST_CHARS];
        int size = 0;
        // The signs and brackets that wait for what stands behind them, and where the codes of an
        // open aggregate begin.
        private final int[] pile = new int[MOST_CHARS];
        private final int[] starts = new int[MOST_CHARS];
        private int high = 0;
        // A minus behind a part stands between two parts, any other one before its only part.
        private boolean isBehindPart = false;

        void turn(char[] text, int length) {
            size = 0;
            high = 0;
            isBehindPart = false;
            int at = 0;
            for (int i = 0; i < MOST_CHARS && at < length && at < text.length; i++) {
                at = turnPart(text, at, Math.min(length, text.length));
            }
            settle(LOWEST_RANK);
        }

        /** Turns what stands at a place, and answers the place behind it. */
        private int turnPart(char[] text, int at, int length) {
            if (at < 0 || at >= length || at >= text.length) {
                return length;
            }
            int sign = text[at];
            if (isDigit(sign)) {
                return turnNumber(text, at, length);
            }
            if (isAggregate(sign)) {
                return openAggregate(text, at, length);
            }
            if (isField(sign)) {
                put(sign);
            } else if (sign == '(') {
                push(sign);
            } else if (sign == ')') {
                close();
            } else {
                turnSign(sign);
            }
            return at + 1;
        }

        private int turnNumber(char[] text, int at, int length) {
            int number = 0;
            int end = at;
            while (end >= 0 && end < length && end < text.length && isDigit(text[end])) {
                number = 10 * number + (text[end] - '0');
                end++;
            }
            put(NUMBER);
            put(number);
            isBehindPart = true;
            return end;
        }

        private int openAggregate(char[] text, int at, int length) {
            int behind = at + 2;
            if (at < 0 || behind >= length || behind >= text.length) {
                return length;
            }
            push(text[at]);
            put(text[at]);
            int field = 0;
            if (isField(text[behind])) {
                field = text[behind];
                behind++;
            }
            put(field);
            put(0);
            boolean hasChoice = behind < length && behind < text.length && text[behind] == ':';
            return hasChoice ? behind + 1 : behind;
        }

        private void close() {
            settle(LOWEST_RANK);
            isBehindPart = true;
            if (!isIn(high, 1, pile.length)) {
                return;
            }
            high--;
            int choiceAt = starts[high] + AGGREGATE_CODES;
            if (isAggregate(pile[high]) && choiceAt <= size && isIn(choiceAt, 1, codes.length)) {
                codes[choiceAt - 1] = size - choiceAt;
            }
        }

        private void turnSign(int sign) {
            int kind = sign == '-' && !isBehindPart ? NEGATE : sign;
            if (kind != NEGATE && kind != '!') {
                settle(rankOf(kind));
            }
            push(kind);
            isBehindPart = false;
        }

        private static int rankOf(int kind) {
            switch (kind) {
                case '|':
                    return LOWEST_RANK;
                case '&':
                    return 2;
                case '!':
                    return 3;
                case '<':
                case '>':
                case '=':
                    return 4;
                case '+':
                case '-':
                    return 5;
                case '*':
                case '/':
                    return 6;
                case NEGATE:
                    return 7;
                default:
                    return 0;
            }
        }

        /** Puts the signs on top of the pile into the row, down to the first of a lower rank. */
        private void settle(int rank) {
            while (isIn(high, 1, pile.length) && rankOf(pile[high - 1]) >= rank) {
                high--;
                put(pile[high]);
            }
        }

        private void push(int sign) {
            if (isIn(high, 0, pile.length - 1)) {
                pile[high] = sign;
                starts[high] = size;
                high++;
            }
        }

        private void put(int code) {
            if (isIn(size, 0, codes.length - 1)) {
                codes[size] = code;
                size++;
            }
        }
    }

    /** Runs a row of codes over the picked logs, with a pile of numbers. */
    private static final class Runner {
        private final Tally tally = new Tally();
        private final long[] pile = new long[MOST_CHARS];
        private int high = 0;

        long run(int[] codes, int size, Logs logs) {
            high = 0;
            int at = 0;
            for (int i = 0; i < size && at >= 0 && at < size && at < codes.length; i++) {
                at = isAggregate(codes[at]) ? gather(codes, at, logs)
                        : step(codes, at, logs, NONE);
            }
            return pull();
        }

        /** Runs a code that is no aggregate, and answers the place behind it. */
        private int step(int[] codes, int at, Logs logs, int log) {
            if (at < 0 || at >= codes.length) {
                return codes.length;
            }
            int code = codes[at];
            if (code == NUMBER) {
                push(at + 1 < codes.length ? codes[at + 1] : 0);
                return at + 2;
            }
            if (isField(code)) {
                push(logs.fieldOf(code, log));
            } else if (code == NEGATE) {
                push(-pull());
            } else if (code == '!') {
                push(pull() == 0 ? 1 : 0);
            } else {
                long second = pull();
                push(combined(code, pull(), second));
            }
            return at + 1;
        }

        private int gather(int[] codes, int at, Logs logs) {
            int begin = at + Coder.AGGREGATE_CODES;
            if (at < 0 || begin > codes.length) {
                return codes.length;
            }
            int field = codes[at + 1];
            int end = begin + codes[at + 2];
            tally.clear();
            for (int i = 0; i < logs.picks && i < logs.picked.length; i++) {
                int log = logs.picked[i];
                if (begin == end || holds(codes, begin, end, logs, log)) {
                    tally.add(field == 0 ? 0 : logs.fieldOf(field, log));
                }
            }
            push(tally.result(codes[at]));
            return end;
        }

        private boolean holds(int[] codes, int begin, int end, Logs logs, int log) {
            int at = begin;
            for (int i = begin; i < end && at < end; i++) {
                at = step(codes, at, logs, log);
            }
            return pull() != 0;
        }

        private void push(long number) {
            if (isIn(high, 0, pile.length - 1)) {
                pile[high] = number;
                high++;
            }
        }

        private long pull() {
            if (!isIn(high, 1, pile.length)) {
                return 0;
            }
            high--;
            return pile[high];
        }
    }

    /** Who is planned, off and woken in each shift, and who owes whom a night. */
    private static final class Rota {
        int people = 0;
        private final int[] swapped = new int[SHIFTS];
        // A bit for each person.
        private final int[] offs = new int[SHIFTS];
        private final int[] holders = new int[SHIFTS];
        private final int[] debtors = new int[MOST_ALARMS];
        private final int[] creditors = new int[MOST_ALARMS];
        int debts = 0;

        Rota() {
            Arrays.fill(swapped, NONE);
            Arrays.fill(holders, NONE);
        }

        boolean hasPerson(int person) {
            return person >= 0 && person < people;
        }

        void turnOff(int person, int shift) {
            if (isIn(shift, 0, SHIFTS - 1)) {
                offs[shift] ^= 1 << person;
            }
        }

        boolean isOff(int person, int shift) {
            return isIn(shift, 0, SHIFTS - 1) && (offs[shift] >> person & 1) != 0;
        }

        void give(int shift, int person) {
            if (isIn(shift, 0, SHIFTS - 1)) {
                swapped[shift] = person;
            }
        }

        int plannedFor(int shift) {
            if (!isIn(shift, 0, SHIFTS - 1) || people <= 0) {
                return NONE;
            }
            return swapped[shift] != NONE ? swapped[shift] : shift % people;
        }

        /** Who would hold a shift if it began now. */
        int holderToBe(int shift) {
            int debt = debtPaidIn(shift);
            if (isIn(debt, 0, debtors.length - 1)) {
                return debtors[debt];
            }
            int first = plannedFor(shift);
            for (int i = 0; i < people; i++) {
                int person = (first + i) % people;
                if (!isOff(person, shift)) {
                    return person;
                }
            }
            return NONE;
        }

        /** The first debt that would be paid by a shift if it began now; NONE if there is none. */
        private int debtPaidIn(int shift) {
            int person = plannedFor(shift);
            if (person == NONE || !isNight(shift) || isOff(person, shift)) {
                return NONE;
            }
            for (int i = 0; i < debts && i < debtors.length; i++) {
                if (creditors[i] == person && !isOff(debtors[i], shift)) {
                    return i;
                }
            }
            return NONE;
        }

        void begin(int shift) {
            if (isIn(shift, 0, SHIFTS - 1)) {
                int debt = debtPaidIn(shift);
                holders[shift] = holderToBe(shift);
                forgetDebt(debt);
            }
        }

        int holderOf(int shift) {
            return isIn(shift, 0, SHIFTS - 1) ? holders[shift] : NONE;
        }

        int nightsOf(int person) {
            int count = 0;
            for (int shift = 0; shift < SHIFTS; shift++) {
                count += isNight(shift) && holders[shift] == person ? 1 : 0;
            }
            return count;
        }

        int debtsOf(int debtor, int creditor) {
            int count = 0;
            for (int i = 0; i < debts && i < debtors.length; i++) {
                count += debtors[i] == debtor && creditors[i] == creditor ? 1 : 0;
            }
            return count;
        }

        void addDebt(int debtor, int creditor) {
            if (isIn(debts, 0, debtors.length - 1)) {
                debtors[debts] = debtor;
                creditors[debts] = creditor;
                debts++;
            }
        }

        private void forgetDebt(int debt) {
            if (!isIn(debt, 0, debts - 1)) {
                return;
            }
            debts--;
            for (int i = debt; i < debts && i + 1 < debtors.length; i++) {
                debtors[i] = debtors[i + 1];
                creditors[i] = creditors[i + 1];
            }
        }
    }

    /** A rule, with the hours in which it is silent and what became of it. */
    private static final class Rule {
        final Node question;
        final int owner;
        final int window;
        final int rest;
        final int madeIn;
        // The hour in which it was dropped: the last one in which it was asked.
        int lastHour = NONE;
        private final int[] silentFrom = new int[MOST_SILENCES];
        private final int[] silentTo = new int[MOST_SILENCES];
        int silences = 0;
        int riseCount = 0;
        int lastRise = NONE;

        Rule(Node question, int owner, int window, int rest, int madeIn) {
            this.question = question;
            this.owner = owner;
            this.window = window;
            this.rest = rest;
            this.madeIn = madeIn;
        }

        boolean isDropped() {
            return lastHour != NONE;
        }

        boolean hasRested(int then, int since) {
            return since == NONE || then - since > rest;
        }

        void addSilence(int from, int to) {
            if (isIn(silences, 0, MOST_SILENCES - 1)) {
                silentFrom[silences] = from;
                silentTo[silences] = to;
                silences++;
            }
        }

        boolean isSilentIn(int then) {
            for (int i = 0; i < silences && i < MOST_SILENCES; i++) {
                if (isIn(then, silentFrom[i], silentTo[i])) {
                    return true;
                }
            }
            return false;
        }
    }

    /** The alarms that rose; those that wait are always the last ones. */
    private static final class Alarms {
        final int[] rules = new int[MOST_ALARMS];
        final int[] hours = new int[MOST_ALARMS];
        final int[] woken = new int[MOST_ALARMS];
        final int[] wokenIn = new int[MOST_ALARMS];
        final boolean[] isAnswered = new boolean[MOST_ALARMS];
        int count = 0;
        int wokenCount = 0;

        boolean has(int alarm) {
            return alarm >= 0 && alarm < count && alarm < MOST_ALARMS;
        }

        boolean waits(int alarm) {
            return alarm >= wokenCount;
        }

        void add(int rule, int hour) {
            if (isIn(count, 0, MOST_ALARMS - 1)) {
                rules[count] = rule;
                hours[count] = hour;
                count++;
            }
        }

        /** Wakes the holder of a shift by all alarms that wait, if there is one. */
        void wakeAll(int holder, int hour) {
            if (holder == NONE) {
                return;
            }
            for (int i = Math.max(0, wokenCount); i < count && i < MOST_ALARMS; i++) {
                woken[i] = holder;
                wokenIn[i] = hour;
            }
            wokenCount = count;
        }
    }
}
