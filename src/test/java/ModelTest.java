import java.util.Random;
import java.util.function.LongSupplier;

/** Runs of chosen calls (the same ones each time) on the class and on the model, side by side. */
public final class ModelTest {
    private static final int RUNS = 600;
    private static final int CALLS = 512;
    private static final int TEXTS = 60000;
    // Each takes forty chars and four calls at most.
    private static final int TEXTS_A_DESK = 10;

    private final Random random;
    private final String name;
    private final Desk desk = new Desk();
    private final Model model = new Model();
    private final int haste;
    private int calls = 0;

    private ModelTest(int seed) {
        random = new Random(seed);
        name = "run " + seed;
        haste = random.nextInt(3);
    }

    public static void main(String[] args) {
        for (int seed = 0; seed < RUNS; seed++) {
            new ModelTest(seed).run();
        }
        texts(new Random(7));
        Check.end();
    }

    private void same(String call, LongSupplier of, LongSupplier due) {
        if (calls >= CALLS) {
            return;
        }
        calls++;
        String want = Check.outcome(due);
        String got = Check.outcome(of);
        Check.due(name + ", call " + calls + ", " + call + ": " + got + " for " + want, true,
                want.equals(got));
    }

    private int upTo(int bound) {
        return random.nextInt(bound);
    }

    /** Mostly a number below the bound, at times one near it, or a far one. */
    private int near(int bound) {
        int kind = upTo(40);
        if (kind == 0) {
            return new int[] {-1, Integer.MIN_VALUE, Integer.MAX_VALUE, -1000}[upTo(4)];
        }
        return kind < 4 ? bound - 1 + upTo(3) : upTo(Math.max(1, bound));
    }

    private void run() {
        int people = upTo(6);
        for (int i = 0; i < people; i++) {
            addPerson();
        }
        int first = upTo(3);
        for (int i = 0; i < first; i++) {
            makeRule();
        }
        while (calls < CALLS) {
            call();
        }
    }

    private void addPerson() {
        same("addPerson", () -> desk.addPerson(), () -> model.addPerson());
    }

    private void type(String text) {
        same("clearText", () -> desk.clearText(), () -> model.clearText());
        for (char c : text.toCharArray()) {
            same("type " + c, () -> desk.type(c), () -> model.type(c));
        }
    }

    private static final String[] RULES = {"1", "n()", "n()<2", "n(:p<3)>1", "n(:l>3)", "s(v)>0",
        "t(p)", "d(l)>1", "t(h)-3", "m(v)+x(v)", "0", "n()="};

    private void makeRule() {
        if (upTo(3) > 0) {
            type(RULES[upTo(RULES.length)]);
        } else {
            type(question(random));
        }
        int owner = near(3);
        int window = upTo(3) == 0 ? near(73) : 1 + upTo(12);
        int rest = upTo(3) == 0 ? near(73) : upTo(10);
        same("addRule " + owner + " " + window + " " + rest, () -> desk.addRule(owner, window, rest),
                () -> model.addRule(owner, window, rest));
    }

    private void pass() {
        int hours = haste == 0 ? near(25) : haste == 1 ? near(10) : near(4);
        same("pass " + hours, () -> desk.pass(hours), () -> model.pass(hours));
    }

    private void log() {
        int part = near(8);
        int level = near(6);
        int value = upTo(3) == 0 ? near(2001) - 1000 : upTo(7) - 3;
        int now = model.now();
        int hour = upTo(3) == 0 ? near(now + 1) : Math.max(0, now - upTo(6));
        same("log " + part + " " + level + " " + value + " " + hour,
                () -> desk.log(part, level, value, hour), () -> model.log(part, level, value, hour));
    }

    private int shift() {
        return upTo(8) == 0 ? near(126) : model.now() / 8 + upTo(6);
    }

    private void ask() {
        if (upTo(2) == 0) {
            type(question(random));
        }
        int now = model.now();
        int to = near(now + 1);
        int from = upTo(2) == 0 ? 0 : near(to + 1);
        String hours = from + " " + to + " in " + now;
        same("errorAt", () -> desk.errorAt(), () -> model.errorAt());
        same("ask " + hours, () -> desk.ask(from, to), () -> model.ask(from, to));
        same("askByCodes " + hours, () -> desk.askByCodes(from, to), () -> model.ask(from, to));
    }

    private void call() {
        switch (upTo(10)) {
            case 0:
            case 1:
                pass();
                break;
            case 2:
                log();
                break;
            case 3:
                if (upTo(4) == 0) {
                    ask();
                } else {
                    askRules();
                }
                break;
            case 4:
            case 5:
                changeRota();
                break;
            case 6:
                askRota();
                break;
            case 7:
                changeRules();
                break;
            default:
                alarms();
                break;
        }
    }

    private void changeRota() {
        int shift = shift();
        int other = shift();
        int person = near(8);
        switch (upTo(8)) {
            case 0:
                if (upTo(6) == 0) {
                    addPerson();
                }
                break;
            case 1:
            case 2:
            case 3:
                same("off " + person + " " + shift, () -> desk.off(person, shift) ? 1 : 0,
                        () -> model.off(person, shift) ? 1 : 0);
                break;
            default:
                same("swap " + shift + " " + other, () -> {
                    desk.swap(shift, other);
                    return 0;
                }, () -> {
                    model.swap(shift, other);
                    return 0;
                });
                break;
        }
    }

    private void askRota() {
        int shift = shift();
        int held = upTo(4) == 0 ? near(126) : model.now() / 8 - upTo(4);
        int person = near(8);
        int other = near(8);
        same("planned " + shift, () -> desk.planned(shift), () -> model.planned(shift));
        same("next", () -> desk.next(), () -> model.next());
        same("holder " + held, () -> desk.holder(held), () -> model.holder(held));
        same("nights " + person, () -> desk.nights(person), () -> model.nights(person));
        same("owes " + person + " " + other, () -> desk.owes(person, other),
                () -> model.owes(person, other));
        same("now", () -> desk.now(), () -> model.now());
    }

    private void changeRules() {
        int rule = near(4);
        switch (upTo(8)) {
            case 0:
                makeRule();
                break;
            case 1:
                if (upTo(3) == 0) {
                    same("drop " + rule, () -> desk.drop(rule), () -> model.drop(rule));
                }
                break;
            case 2:
            case 3:
                int from = model.now() + upTo(10);
                int to = upTo(10) == 0 ? near(1001) : from + upTo(6);
                same("silence " + rule + " " + from + " " + to, () -> desk.silence(rule, from, to),
                        () -> model.silence(rule, from, to));
                break;
            default:
                log();
                break;
        }
    }

    private void askRules() {
        int rule = near(4);
        same("inWindow " + rule, () -> desk.inWindow(rule), () -> model.inWindow(rule));
        same("rises " + rule, () -> desk.rises(rule), () -> model.rises(rule));
        same("risesAnew " + rule, () -> desk.risesAnew(rule), () -> model.rises(rule));
    }

    private void alarms() {
        int count = model.alarms();
        int alarm = upTo(3) > 0 ? Math.max(0, count - 1 - upTo(8)) : near(count);
        same("alarms", () -> desk.alarms(), () -> model.alarms());
        same("waiting", () -> desk.waiting(), () -> model.waiting());
        same("alarm " + alarm, () -> desk.alarm(alarm), () -> model.alarm(alarm));
        same("woken " + alarm, () -> desk.woken(alarm), () -> model.woken(alarm));
        same("wokenAt " + alarm, () -> desk.wokenAt(alarm), () -> model.wokenAt(alarm));
        same("wouldRise " + alarm, () -> desk.wouldRise(alarm) ? 1 : 0,
                () -> model.wouldRise(alarm) ? 1 : 0);
        for (int i = 0; i < 3; i++) {
            int answered = Math.max(0, alarm - i);
            boolean isVain = upTo(4) > 0;
            same("answer " + answered + " " + isVain, () -> desk.answer(answered, isVain),
                    () -> model.answer(answered, isVain));
        }
    }

    // ---- texts

    /** Many texts, whole ones and broken ones, some over one set of logs, then over the next one. */
    private static void texts(Random random) {
        for (int i = 0; i < TEXTS / TEXTS_A_DESK; i++) {
            Desk desk = new Desk().passTo(40);
            Model model = new Model();
            for (int hours : new int[] {24, 16}) {
                model.pass(hours);
            }
            for (int log = 0; log < 25; log++) {
                int part = random.nextInt(4);
                int level = random.nextInt(6);
                int value = random.nextInt(9) - 4;
                int hour = random.nextInt(41);
                desk.log(part, level, value, hour);
                model.log(part, level, value, hour);
            }
            for (int text = 0; text < TEXTS_A_DESK; text++) {
                text(desk, model, random);
            }
        }
    }

    private static void text(Desk desk, Model model, Random random) {
        String text = question(random);
        desk.write(text);
        model.clearText();
        for (char c : text.toCharArray()) {
            model.type(c);
        }
        Check.due("errorAt of " + text, model.errorAt(), desk.errorAt());
        int from = random.nextInt(41);
        int to = from + random.nextInt(41 - from);
        String want = Check.outcome(() -> model.ask(from, to));
        Check.due(text + " by its tree", want, Check.outcome(() -> desk.ask(from, to)));
        Check.due(text + " by its codes", want, Check.outcome(() -> desk.askByCodes(from, to)));
    }

    /** A text, mostly a question, at times cut or with another char in it. */
    private static String question(Random random) {
        StringBuilder text = new StringBuilder();
        grow("T", random, text);
        String whole = text.length() > 40 ? text.substring(0, 40) : text.toString();
        int kind = random.nextInt(12);
        int at = random.nextInt(whole.length());
        char other = "0123456789()+-*/<>=nsmxdtplvh:!&| ~#".charAt(random.nextInt(36));
        if (kind == 0) {
            return whole.substring(0, at);
        }
        if (kind == 1) {
            return whole.substring(0, at) + other + whole.substring(at + 1);
        }
        if (kind == 2 && whole.length() < 40) {
            return whole.substring(0, at) + other + whole.substring(at);
        }
        return whole;
    }

    /** Grows a part of a question; the longer the text is by then, the plainer the part. */
    private static void grow(String part, Random random, StringBuilder text) {
        int room = 40 - text.length();
        boolean isLong = room < 16 || random.nextInt(40) > room;
        switch (part.charAt(0)) {
            case 'T':
                grow("S", random, text);
                if (!isLong && random.nextInt(3) == 0) {
                    text.append("<>=".charAt(random.nextInt(3)));
                    grow("S", random, text);
                }
                break;
            case 'S':
                chain("P", "+-", isLong ? 1 : 1 + random.nextInt(3), random, text);
                break;
            case 'P':
                chain("U", "*/", isLong ? 1 : 1 + random.nextInt(3), random, text);
                break;
            case 'U':
                growUnit(isLong, random, text);
                break;
            case 'C':
                chain("R", "|", isLong ? 1 : 1 + random.nextInt(3), random, text);
                break;
            case 'R':
                chain("E", "&", isLong ? 1 : 1 + random.nextInt(3), random, text);
                break;
            default:
                growTerm(isLong, random, text);
                break;
        }
    }

    private static void chain(String part, String signs, int count, Random random,
            StringBuilder text) {
        for (int i = 0; i < count; i++) {
            if (i > 0) {
                text.append(signs.charAt(random.nextInt(signs.length())));
            }
            grow(part, random, text);
        }
    }

    private static void growUnit(boolean isLong, Random random, StringBuilder text) {
        int kind = random.nextInt(isLong ? 4 : 9);
        if (kind < 2) {
            text.append(random.nextInt(4) == 0 ? random.nextInt(10000) : random.nextInt(6));
        } else if (kind == 4) {
            text.append('-');
            grow("U", random, text);
        } else if (kind == 5) {
            text.append('(');
            grow("T", random, text);
            text.append(')');
        } else {
            char letter = "nsmxdt".charAt(random.nextInt(6));
            text.append(letter).append('(');
            if (letter != 'n') {
                text.append("plvh".charAt(random.nextInt(4)));
            }
            if (!isLong && random.nextInt(4) > 0) {
                text.append(':');
                grow("C", random, text);
            }
            text.append(')');
        }
    }

    private static void growTerm(boolean isLong, Random random, StringBuilder text) {
        int kind = random.nextInt(isLong ? 4 : 7);
        if (kind == 4 || kind == 5) {
            text.append('!');
            grow("E", random, text);
        } else if (kind == 6) {
            text.append('(');
            grow("C", random, text);
            text.append(')');
        } else {
            text.append("plvh".charAt(random.nextInt(4))).append("<>=".charAt(random.nextInt(3)));
            text.append(random.nextInt(4) == 0 ? "-" : "").append(random.nextInt(6));
        }
    }
}
