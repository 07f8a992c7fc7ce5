/**
 * A Pagerloom that counts its calls, since behind the 512th one the document promises nothing; and
 * the steps that the tests build their desks with.
 */
final class Desk {
    private static final int MOST_CALLS = 512;

    private final Pagerloom desk = new Pagerloom();
    private int calls = 0;

    private Pagerloom call() {
        calls++;
        if (calls > MOST_CALLS) {
            throw new AssertionError("the test makes more calls than the document promises");
        }
        return desk;
    }

    int calls() {
        return calls;
    }

    // The face.

    int type(char sign) {
        return call().type(sign);
    }

    int clearText() {
        return call().clearText();
    }

    int errorAt() {
        return call().errorAt();
    }

    long ask(int from, int to) {
        return call().ask(from, to);
    }

    long askByCodes(int from, int to) {
        return call().askByCodes(from, to);
    }

    int pass(int hours) {
        return call().pass(hours);
    }

    int now() {
        return call().now();
    }

    int log(int part, int level, int value, int hour) {
        return call().log(part, level, value, hour);
    }

    int addPerson() {
        return call().addPerson();
    }

    boolean off(int person, int shift) {
        return call().off(person, shift);
    }

    void swap(int shift, int other) {
        call().swap(shift, other);
    }

    int planned(int shift) {
        return call().planned(shift);
    }

    int next() {
        return call().next();
    }

    int holder(int shift) {
        return call().holder(shift);
    }

    int nights(int person) {
        return call().nights(person);
    }

    int owes(int person, int other) {
        return call().owes(person, other);
    }

    int addRule(int owner, int window, int rest) {
        return call().addRule(owner, window, rest);
    }

    int drop(int rule) {
        return call().drop(rule);
    }

    int silence(int rule, int from, int to) {
        return call().silence(rule, from, to);
    }

    int inWindow(int rule) {
        return call().inWindow(rule);
    }

    int rises(int rule) {
        return call().rises(rule);
    }

    int risesAnew(int rule) {
        return call().risesAnew(rule);
    }

    int alarms() {
        return call().alarms();
    }

    int waiting() {
        return call().waiting();
    }

    int alarm(int alarm) {
        return call().alarm(alarm);
    }

    int woken(int alarm) {
        return call().woken(alarm);
    }

    int wokenAt(int alarm) {
        return call().wokenAt(alarm);
    }

    int answer(int alarm, boolean isVain) {
        return call().answer(alarm, isVain);
    }

    boolean wouldRise(int alarm) {
        return call().wouldRise(alarm);
    }

    // Steps of several calls, one behind another.

    static Desk of(int people) {
        return new Desk().addPeople(people);
    }

    Desk addPeople(int people) {
        for (int i = 0; i < people; i++) {
            addPerson();
        }
        return this;
    }

    Desk write(String text) {
        clearText();
        for (int i = 0; i < text.length(); i++) {
            type(text.charAt(i));
        }
        return this;
    }

    /** Lets hours pass up to one, whatever the hour is by then. */
    Desk passTo(int hour) {
        for (int now = desk.now(); now < hour; now = desk.now()) {
            pass(Math.min(24, hour - now));
        }
        return this;
    }

    Desk tell(int part, int level, int value, int hour) {
        log(part, level, value, hour);
        return this;
    }

    Desk rule(String question, int owner, int window, int rest) {
        write(question).addRule(owner, window, rest);
        return this;
    }

    Desk turnOff(int shift, int... people) {
        for (int person : people) {
            off(person, shift);
        }
        return this;
    }

    Desk swapShifts(int shift, int other) {
        swap(shift, other);
        return this;
    }

    Desk dropRules(int... rules) {
        for (int rule : rules) {
            drop(rule);
        }
        return this;
    }

    Desk silent(int rule, int from, int to) {
        silence(rule, from, to);
        return this;
    }

    Desk answerAll(boolean isVain, int... alarms) {
        for (int alarm : alarms) {
            answer(alarm, isVain);
        }
        return this;
    }
}
