/** Promises 24 to 30: alarms, waiting, alarm, woken, wokenAt, answer, wouldRise. */
public final class AlarmsTest {
    public static void main(String[] args) {
        noSuchAlarm();
        waitInTheShiftZero();
        waitThroughShifts();
        waitAheadOfRules();
        wakeAtOnce();
        manyAlarms();
        answer();
        answerThatOwesNothing();
        answerOfOneThatWaited();
        wouldRise();
        wouldRiseOfTheWholeWindow();
        Check.end();
    }

    private static void noSuchAlarm() {
        Pagerloom desk = Check.withPeople(1);
        Check.rule(desk, "1", 0, 1, 72);
        for (int alarm : new int[] {0, -1, 1, Integer.MAX_VALUE, Integer.MIN_VALUE}) {
            none(desk, alarm);
        }
        desk.pass(1);
        for (int alarm : new int[] {-1, 1, 4000, Integer.MAX_VALUE, Integer.MIN_VALUE}) {
            none(desk, alarm);
        }
        Check.due("alarms", 1, desk.alarms());
    }

    private static void none(Pagerloom desk, int alarm) {
        Check.none("alarm " + alarm, () -> desk.alarm(alarm));
        Check.none("woken " + alarm, () -> desk.woken(alarm));
        Check.none("wokenAt " + alarm, () -> desk.wokenAt(alarm));
        Check.none("answer " + alarm, () -> desk.answer(alarm, true));
        Check.none("answer " + alarm, () -> desk.answer(alarm, false));
        Check.none("wouldRise " + alarm, () -> desk.wouldRise(alarm) ? 1 : 0);
    }

    private static void waits(Pagerloom desk, int alarm) {
        Check.due("woken " + alarm, -1, desk.woken(alarm));
        Check.thrown("wokenAt " + alarm, java.util.NoSuchElementException.class,
                () -> desk.wokenAt(alarm));
        Check.state("answer " + alarm, () -> desk.answer(alarm, true));
        Check.state("answer " + alarm, () -> desk.answer(alarm, false));
    }

    private static void woke(Pagerloom desk, int alarm, int person, int hour) {
        Check.due("woken " + alarm, person, desk.woken(alarm));
        Check.due("wokenAt " + alarm, hour, desk.wokenAt(alarm));
    }

    private static void waitInTheShiftZero() {
        Pagerloom desk = Check.withPeople(2);
        Check.rule(desk, "1", 0, 1, 3);
        desk.pass(7);
        Check.due("alarms", 2, desk.alarms());
        Check.due("waiting", 2, desk.waiting());
        waits(desk, 0);
        waits(desk, 1);
        Check.due("pass", 0, desk.pass(1));
        Check.due("waiting", 0, desk.waiting());
        woke(desk, 0, 1, 8);
        woke(desk, 1, 1, 8);
        Check.due("alarm 0", 1, desk.alarm(0));
        Check.due("alarm 1", 5, desk.alarm(1));
    }

    private static void waitThroughShifts() {
        Pagerloom desk = Check.withPeople(1);
        desk.off(0, 2);
        desk.off(0, 3);
        Check.passTo(desk, 14);
        Check.rule(desk, "1", 0, 1, 4);
        desk.pass(1);
        Check.due("woken in the shift 1", 0, desk.waiting());
        woke(desk, 0, 0, 15);
        Check.passTo(desk, 20);
        Check.due("waiting", 1, desk.waiting());
        Check.passTo(desk, 31);
        Check.due("waiting", 3, desk.waiting());
        Check.due("alarms", 4, desk.alarms());
        waits(desk, 1);
        waits(desk, 3);
        woke(desk, 0, 0, 15);
        desk.pass(1);
        Check.due("waiting", 0, desk.waiting());
        for (int alarm = 1; alarm < 4; alarm++) {
            woke(desk, alarm, 0, 32);
        }
        desk.pass(3);
        woke(desk, 4, 0, 35);
        Check.due("waiting", 0, desk.waiting());
    }

    /** What rises in the first hour of a shift wakes the holder of that shift, not the last one. */
    private static void waitAheadOfRules() {
        Pagerloom desk = Check.withPeople(3);
        Check.rule(desk, "1", 0, 1, 0);
        Check.rule(desk, "1", 0, 1, 0);
        Check.passTo(desk, 8);
        Check.due("alarms", 16, desk.alarms());
        Check.due("the first alarm of the hour 8", 8, desk.alarm(14));
        Check.due("the second alarm of the hour 8", 10008, desk.alarm(15));
        woke(desk, 13, 1, 8);
        woke(desk, 14, 1, 8);
        woke(desk, 15, 1, 8);
        Check.passTo(desk, 16);
        woke(desk, 29, 1, 15);
        woke(desk, 30, 2, 16);
    }

    private static void wakeAtOnce() {
        Pagerloom desk = Check.withPeople(3);
        Check.passTo(desk, 20);
        Check.rule(desk, "1", 0, 1, 72);
        Check.due("pass", 1, desk.pass(1));
        woke(desk, 0, 2, 21);
        Check.due("waiting", 0, desk.waiting());
    }

    private static void manyAlarms() {
        Pagerloom desk = Check.withPeople(3);
        for (int rule = 0; rule < 4; rule++) {
            Check.rule(desk, "1", rule % 3, 72, 0);
        }
        Check.passTo(desk, 1000);
        Check.due("alarms", 4000, desk.alarms());
        Check.due("waiting", 0, desk.waiting());
        Check.due("the first", 1, desk.alarm(0));
        Check.due("the last", 31000, desk.alarm(3999));
        Check.due("the one of the rule 2 in the hour 500", 20500, desk.alarm(4 * 499 + 2));
        Check.none("alarm 4000", () -> desk.alarm(4000));
        Check.due("rises anew", 1000, desk.risesAnew(3));
        int debts = 0;
        for (int alarm = 0; alarm < 4000; alarm++) {
            boolean isNight = desk.wokenAt(alarm) / 8 % 3 == 0;
            debts += isNight && desk.woken(alarm) != alarm % 4 % 3 ? 1 : 0;
            Check.due("answer " + alarm, debts, desk.answer(alarm, true));
        }
        woke(desk, 3999, 125 % 3, 1000);
    }

    private static void answer() {
        Pagerloom desk = Check.withPeople(3);
        Check.passTo(desk, 23);
        Check.rule(desk, "1", 1, 1, 72);
        Check.rule(desk, "1", 2, 1, 72);
        desk.pass(1);
        woke(desk, 0, 0, 24);
        Check.due("in vain, in a night", 1, desk.answer(0, true));
        Check.state("answered", () -> desk.answer(0, true));
        Check.state("answered", () -> desk.answer(0, false));
        Check.due("owes", 1, desk.owes(1, 0));
        Check.due("not in vain", 1, desk.answer(1, false));
        Check.state("answered", () -> desk.answer(1, true));
        Check.due("owes nothing", 0, desk.owes(2, 0));
    }

    private static void answerThatOwesNothing() {
        Pagerloom desk = Check.withPeople(3);
        Check.passTo(desk, 23);
        Check.rule(desk, "1", 0, 1, 72);
        Check.rule(desk, "1", 2, 1, 7);
        desk.pass(1);
        Check.due("the owner itself", 0, desk.answer(0, true));
        Check.due("owes itself nothing", 0, desk.owes(0, 0));
        desk.pass(8);
        woke(desk, 2, 1, 32);
        Check.due("no night", 0, desk.answer(2, true));
        Check.due("owes nothing", 0, desk.owes(2, 1));
        desk.pass(8);
        Check.due("the owner itself, no night", 0, desk.answer(3, true));
        Check.due("a night", 1, desk.answer(1, true));
    }

    /** The hour in which an alarm wakes is what counts, not the one in which it rises. */
    private static void answerOfOneThatWaited() {
        Pagerloom desk = Check.withPeople(2);
        desk.off(0, 2);
        desk.off(1, 2);
        desk.off(0, 6);
        desk.off(1, 6);
        Check.passTo(desk, 20);
        Check.rule(desk, "1", 0, 1, 27);
        Check.passTo(desk, 24);
        Check.due("rose in a day", 21, desk.alarm(0));
        woke(desk, 0, 1, 24);
        Check.due("woke in a night", 1, desk.answer(0, true));
        Check.passTo(desk, 56);
        Check.due("rose in a night", 49, desk.alarm(1));
        woke(desk, 1, 1, 56);
        Check.due("woke in a day", 1, desk.answer(1, true));
        Check.due("owes", 1, desk.owes(0, 1));
    }

    private static void wouldRise() {
        Pagerloom desk = Check.withPeople(1);
        Check.rule(desk, "n()<2", 0, 3, 4);
        desk.pass(10);
        Check.due("alarms", 2, desk.alarms());
        Check.due("would rise", true, desk.wouldRise(0));
        Check.due("would rise", true, desk.wouldRise(1));
        desk.log(0, 0, 0, 4);
        desk.log(0, 0, 0, 3);
        Check.due("one log of its window", true, desk.wouldRise(1));
        desk.log(0, 0, 0, 7);
        Check.due("one log of its window", true, desk.wouldRise(1));
        desk.log(0, 0, 0, 6);
        Check.due("two logs of its window", false, desk.wouldRise(1));
        Check.due("the other alarm", true, desk.wouldRise(0));
        desk.log(0, 0, 0, 1);
        Check.due("one log of the window of 0", true, desk.wouldRise(0));
        desk.log(0, 0, 0, 0);
        Check.due("two logs of the window of 0", false, desk.wouldRise(0));
        Check.due("alarms stay", 2, desk.alarms());
        Check.due("rises stay", 2, desk.rises(0));
        desk.drop(0);
        Check.due("of a dropped rule", false, desk.wouldRise(1));
    }

    private static void wouldRiseOfTheWholeWindow() {
        Pagerloom desk = Check.withPeople(1);
        Check.rule(desk, "1-n(:p=1)", 0, 3, 72);
        Check.passTo(desk, 4);
        Check.rule(desk, "n(:p=2)=0", 0, 3, 72);
        desk.pass(1);
        Check.due("alarm", 10005, desk.alarm(1));
        desk.log(2, 0, 0, 2);
        Check.due("ahead of its window", true, desk.wouldRise(1));
        desk.log(2, 0, 0, 3);
        Check.due("its first hour", false, desk.wouldRise(1));
        desk.log(1, 0, 0, 1);
        Check.due("its last hour", false, desk.wouldRise(0));
        desk.log(1, 0, 0, 1);
        Check.due("not 0 again", true, desk.wouldRise(0));
        desk.pass(1);
        desk.log(1, 0, 0, 2);
        Check.due("behind its window", true, desk.wouldRise(0));
        Check.due("behind its window", false, desk.wouldRise(1));
    }
}
