/** Promises 24 to 30: alarms, waiting, alarm, woken, wokenAt, answer, wouldRise. */
public final class PromisesOfAlarmsTest {
    private static final int LEAST = Integer.MIN_VALUE;
    private static final int GREATEST = Integer.MAX_VALUE;

    public static void main(String[] args) {
        Check.all(PromisesOfAlarmsTest.class);
    }

    /** In the hour 17: the alarms of 1 and 5 woke 1 in 8, those of 9 and 13 at once, two of 17 wait. */
    private static Desk some() {
        return Desk.of(2).turnOff(2, 0, 1).rule("1", 0, 1, 3).passTo(16).rule("1", 1, 1, 0).passTo(17);
    }

    // ---- 24: alarms

    @Says("Returns how many alarms there were.")
    static void promise24FromNoneToTheMost() {
        Desk desk = Desk.of(1);
        Check.due("none", 0, desk.alarms());
        desk.rule("1", 0, 1, 0).rule("1", 0, 1, 0).rule("1", 0, 1, 0).rule("1", 0, 1, 0);
        Check.due("none yet", 0, desk.alarms());
        desk.pass(1);
        Check.due("the first four", 4, desk.alarms());
        desk.passTo(1000);
        Check.due("the most", 4000, desk.alarms());
    }

    @Says("Returns how many alarms there were.")
    static void promise24WaitingOrAnsweredOrOfADroppedRule() {
        Desk desk = some();
        Check.due("with one that waits", 6, desk.alarms());
        desk.answerAll(true, 0, 1).dropRules(0);
        Check.due("with answered ones", 6, desk.alarms());
        desk.pass(24);
        Check.due("with those that came", 30, desk.alarms());
    }

    // ---- 25: waiting

    @Says("Returns how many alarms wait.")
    static void promise25FromNoneToSomeToNone() {
        Desk desk = Desk.of(2).rule("1", 0, 1, 0);
        for (int hour = 0; hour < 8; hour++) {
            Check.due("in the hour " + hour, hour, desk.waiting());
            desk.pass(1);
        }
        Check.due("in the hour 8", 0, desk.waiting());
        desk.passTo(24);
        Check.due("in the hour 24", 0, desk.waiting());
    }

    @Says("Returns how many alarms wait.")
    static void promise25AllOfThemWithoutPeopleWhoHold() {
        Desk desk = Desk.of(1).rule("1", 0, 72, 0).rule("1", 0, 72, 0);
        for (int shift = 1; shift <= 125; shift++) {
            desk.off(0, shift);
        }
        desk.passTo(1000);
        Check.due("alarms", 2000, desk.alarms());
        Check.due("waiting", 2000, desk.waiting());
        Check.due("woken", -1, desk.woken(1999));
        desk = Desk.of(1).rule("1", 0, 72, 0).rule("1", 0, 72, 0);
        for (int shift = 1; shift <= 124; shift++) {
            desk.off(0, shift);
        }
        desk.passTo(999);
        Check.due("waiting", 1998, desk.waiting());
        desk.pass(1);
        Check.due("waiting", 0, desk.waiting());
        Check.due("the first", 1000, desk.wokenAt(0));
        Check.due("the last", 1000, desk.wokenAt(1999));
    }

    @Says("Returns how many alarms wait.")
    static void promise25NotThoseThatWereWoken() {
        Desk desk = some();
        Check.due("of six", 2, desk.waiting());
        desk.answerAll(false, 0, 1);
        Check.due("of six, two answered", 2, desk.waiting());
    }

    // ---- 26: alarm

    @Says("Returns 10000 times its rule, and the hour in which it rose, together.")
    static void promise26TheLeastAndTheGreatest() {
        Desk desk = Desk.of(1).rule("1", 0, 1, 0).rule("0", 0, 1, 0).rule("0", 0, 1, 0);
        desk.pass(1);
        Check.due("the least", 1, desk.alarm(0));
        desk.passTo(999).dropRules(0).rule("1", 0, 1, 0).pass(1);
        Check.due("the greatest", 31000, desk.alarm(desk.alarms() - 1));
        Check.due("one between", 999, desk.alarm(desk.alarms() - 2));
    }

    @Says("Returns what an alarm is.")
    static void promise26TheHourOfTheRisingNotOfTheWaking() {
        Desk desk = some();
        int[] due = {1, 5, 9, 13, 17, 10017};
        for (int alarm = 0; alarm < 6; alarm++) {
            Check.due("alarm " + alarm, due[alarm], desk.alarm(alarm));
        }
    }

    @Says("Throws `IndexOutOfBoundsException` as told")
    static void promise26NoSuchAlarm() {
        Check.none(() -> Desk.of(1).rule("1", 0, 1, 0), desk -> desk.alarm(0),
                desk -> desk.alarm(-1));
        Check.none(() -> some(), desk -> desk.alarm(-1), desk -> desk.alarm(6),
                desk -> desk.alarm(LEAST), desk -> desk.alarm(GREATEST), desk -> desk.alarm(4000));
    }

    @Says("Throws `IndexOutOfBoundsException` as told")
    static void promise26NoneBehindTheMostAlarms() {
        Desk desk = Desk.of(1).rule("1", 0, 1, 0).rule("1", 0, 1, 0).rule("1", 0, 1, 0)
                .rule("1", 0, 1, 0).passTo(1000);
        String due = "java.lang.IndexOutOfBoundsException";
        Check.due("the last one", 31000, desk.alarm(3999));
        Check.due("alarm", due, Check.outcome(() -> desk.alarm(4000)));
        Check.due("woken", due, Check.outcome(() -> desk.woken(4000)));
        Check.due("wokenAt", due, Check.outcome(() -> desk.wokenAt(4000)));
        Check.due("answer", due, Check.outcome(() -> desk.answer(4000, true)));
        Check.due("wouldRise", due, Check.outcome(() -> desk.wouldRise(4000) ? 1 : 0));
        Check.due("the last one's answer", 0, desk.answer(3999, true));
    }

    // ---- 27: woken

    @Says("Returns whom an alarm woke.")
    static void promise27ThePersonFrom0To7() {
        Desk desk = Desk.of(8).passTo(15).rule("1", 0, 1, 7).passTo(80);
        for (int alarm = 0; alarm <= 8; alarm++) {
            Check.due("woken " + alarm, (alarm + 2) % 8, desk.woken(alarm));
        }
    }

    @Says("Returns the person; NONE if it waits.")
    static void promise27NoneIfItWaits() {
        Desk desk = some();
        int[] due = {1, 1, 1, 1, Pagerloom.NONE, Pagerloom.NONE};
        for (int alarm = 0; alarm < 6; alarm++) {
            Check.due("woken " + alarm, due[alarm], desk.woken(alarm));
        }
        desk.passTo(23);
        Check.due("in the hour 23", Pagerloom.NONE, desk.woken(4));
        desk.pass(1);
        Check.due("in the hour 24", 1, desk.woken(4));
        Check.due("in the hour 24", 1, desk.woken(5));
    }

    @Says("Throws `IndexOutOfBoundsException` as told")
    static void promise27NoSuchAlarm() {
        Check.none(() -> Desk.of(1).rule("1", 0, 1, 0), desk -> desk.woken(0),
                desk -> desk.woken(-1));
        Check.none(() -> some(), desk -> desk.woken(-1), desk -> desk.woken(6),
                desk -> desk.woken(LEAST), desk -> desk.woken(GREATEST));
    }

    // ---- 28: wokenAt

    @Says("Returns in which hour an alarm woke somebody.")
    static void promise28AtOnceOrWithTheNextHolder() {
        Desk desk = some().passTo(24);
        int[] due = {8, 8, 9, 13, 24, 24};
        for (int alarm = 0; alarm < 6; alarm++) {
            Check.due("wokenAt " + alarm, due[alarm], desk.wokenAt(alarm));
        }
    }

    @Says("Returns in which hour an alarm woke somebody.")
    static void promise28TheLeastAndTheGreatestHour() {
        Desk desk = Desk.of(1).rule("1", 0, 1, 0).passTo(1000);
        Check.due("the least", 8, desk.wokenAt(0));
        Check.due("in the first hour of a shift", 8, desk.wokenAt(7));
        Check.due("the hour behind it", 9, desk.wokenAt(8));
        Check.due("the greatest", 1000, desk.wokenAt(999));
    }

    @Says("Throws `java` .util.NoSuchElementException if it waits")
    static void promise28MissingIfItWaits() {
        Check.missing(() -> some(), desk -> desk.wokenAt(4), desk -> desk.wokenAt(5));
        Check.missing(() -> Desk.of(1).rule("1", 0, 1, 0).passTo(7), desk -> desk.wokenAt(0),
                desk -> desk.wokenAt(6));
    }

    @Says("Throws `IndexOutOfBoundsException` as told")
    static void promise28NoSuchAlarm() {
        Check.none(() -> Desk.of(1).rule("1", 0, 1, 0), desk -> desk.wokenAt(0),
                desk -> desk.wokenAt(-1));
        Check.none(() -> some(), desk -> desk.wokenAt(-1), desk -> desk.wokenAt(6),
                desk -> desk.wokenAt(LEAST), desk -> desk.wokenAt(GREATEST));
    }

    // ---- 29: answer

    /** Three people in the night 3, which 2 holds: woken by the rules of 0, of 1 and its own one. */
    private static Desk night() {
        return Desk.of(3).turnOff(3, 0, 1).passTo(23).rule("1", 0, 1, 0).rule("1", 1, 1, 0)
                .rule("1", 2, 1, 0).passTo(24);
    }

    @Says("`isVain`: whether it was in vain")
    static void promise29InVainAndNot() {
        Desk desk = night();
        Check.due("in vain", 1, desk.answer(0, true));
        Check.due("owes", 1, desk.owes(0, 2));
        Check.due("not in vain", 1, desk.answer(1, false));
        Check.due("owes nothing", 0, desk.owes(1, 2));
        Check.due("in vain, its owner", 1, desk.answer(2, true));
        Check.due("owes itself nothing", 0, desk.owes(2, 2));
    }

    @Says("Answers an alarm.")
    static void promise29InAnyOrder() {
        Desk desk = night();
        desk.pass(1);
        Check.due("the last one", 0, desk.answer(5, true));
        Check.due("one between", 1, desk.answer(3, true));
        Check.due("the first one", 2, desk.answer(0, true));
        Check.due("owes", 2, desk.owes(0, 2));
    }

    @Says("Returns how many debts there are then.")
    static void promise29ReturnsTheDebtsOfAll() {
        Desk desk = night();
        Check.due("one", 1, desk.answer(0, true));
        Check.due("two, of two people", 2, desk.answer(1, true));
        Check.due("none more", 2, desk.answer(2, false));
        desk.dropRules(0, 1).turnOff(6, 0, 1).turnOff(9, 1).turnOff(12, 1).passTo(72);
        // With three people all nights are planned for 0: nothing was paid to 2.
        Check.due("two, of before", 2, desk.answer(3, true));
    }

    @Says("Returns how many debts there are then.")
    static void promise29PaidDebtsAreNotCounted() {
        Desk desk = Desk.of(2).turnOff(3, 1).passTo(23).rule("1", 1, 1, 0).passTo(27);
        for (int alarm = 0; alarm < 3; alarm++) {
            Check.due("debts", alarm + 1, desk.answer(alarm, true));
        }
        desk.dropRules(0).passTo(48);
        Check.due("the night 6 is paid", 1, desk.holder(6));
        Check.due("debts", 3, desk.answer(3, true));
        Check.due("owes", 3, desk.owes(1, 0));
    }

    @Says("Returns how many debts there are then.")
    static void promise29ManyDebts() {
        Desk desk = Desk.of(2).turnOff(3, 1);
        desk.rule("1", 1, 1, 0).rule("1", 1, 1, 0).rule("1", 1, 1, 0).rule("1", 1, 1, 0);
        for (int shift = 4; shift <= 60; shift++) {
            if (shift % 3 == 0) {
                desk.turnOff(shift, 1);
            }
        }
        desk.passTo(488);
        int due = 0;
        for (int alarm = 92; desk.calls() < 510; alarm++) {
            due += (alarm / 4 + 1) / 8 % 3 == 0 ? 1 : 0;
            Check.due("answer " + alarm, due, desk.answer(alarm, true));
        }
        Check.due("owes", due, desk.owes(1, 0));
        Check.due("more than a hundred", true, due > 100);
    }

    @Says("Throws `IndexOutOfBoundsException` as told")
    static void promise29NoSuchAlarm() {
        Check.none(() -> Desk.of(1).rule("1", 0, 1, 0), desk -> desk.answer(0, true),
                desk -> desk.answer(0, false), desk -> desk.answer(-1, true));
        Check.none(() -> some(), desk -> desk.answer(-1, true), desk -> desk.answer(6, true),
                desk -> desk.answer(6, false), desk -> desk.answer(LEAST, true),
                desk -> desk.answer(GREATEST, false));
        Check.none(() -> night(), desk -> desk.answer(3, true), desk -> desk.answer(-1, false));
    }

    @Says("Throws `IllegalStateException` if it waits, or was answered")
    static void promise29NotWhileItWaits() {
        Check.state(() -> some(), desk -> desk.answer(4, true), desk -> desk.answer(5, false));
        Check.state(() -> Desk.of(2).rule("1", 0, 1, 0).passTo(7), desk -> desk.answer(0, true),
                desk -> desk.answer(6, false));
        Desk desk = some().passTo(24);
        Check.due("as soon as it woke", 1, desk.answer(4, true));
    }

    @Says("Throws `IllegalStateException` if it waits, or was answered")
    static void promise29NotOnceMore() {
        Check.state(() -> night().answerAll(true, 0), desk -> desk.answer(0, true),
                desk -> desk.answer(0, false));
        Check.state(() -> night().answerAll(false, 0), desk -> desk.answer(0, true));
        Check.state(() -> night().answerAll(true, 2), desk -> desk.answer(2, true));
        Check.state(() -> some().answerAll(true, 0), desk -> desk.answer(0, true));
        Check.state(() -> night().answerAll(true, 0).passTo(48), desk -> desk.answer(0, true));
    }

    // ---- 30: wouldRise

    @Says("by the logs of its window that are told by now, late ones with them")
    static void promise30LateLogsCount() {
        Desk desk = Desk.of(1).rule("n()=0", 0, 3, 72).passTo(10);
        Check.due("as it rose", true, desk.wouldRise(0));
        desk.log(0, 0, 0, 1);
        Check.due("a late one of its hour", false, desk.wouldRise(0));
        Check.due("the alarm stays", 1, desk.alarms());
        Check.due("rises anew goes by what was told", 1, desk.risesAnew(0));
        // Back to not 0: the question says so, not how many were late.
        desk = Desk.of(1).rule("n()-1", 0, 3, 72).passTo(10).tell(0, 0, 0, 0);
        Check.due("one", false, desk.wouldRise(0));
        desk.log(0, 0, 0, 1);
        Check.due("two", true, desk.wouldRise(0));
    }

    @Says("by the logs of its window that are told by now")
    static void promise30TheFirstAndTheLastHourOfItsWindow() {
        for (int hour = 0; hour <= 9; hour++) {
            // The alarm rose in the hour 6, over the hours 4 to 6.
            Desk desk = Desk.of(1).passTo(5).rule("n()=0", 0, 3, 72).passTo(9).tell(0, 0, 0, hour);
            Check.due("alarm", 6, desk.alarm(0));
            Check.due("a log of the hour " + hour, hour < 4 || hour > 6, desk.wouldRise(0));
        }
    }

    @Says("by the logs of its window that are told by now")
    static void promise30WindowsOf1AndOf72() {
        Desk desk = Desk.of(1).passTo(99).rule("n()=0", 0, 1, 72).rule("n()=0", 0, 72, 72).passTo(101);
        Check.due("of 1", true, desk.wouldRise(0));
        Check.due("of 72", true, desk.wouldRise(1));
        desk.tell(0, 0, 0, 28).tell(0, 0, 0, 101);
        Check.due("ahead of 72, and behind", true, desk.wouldRise(1));
        desk.log(0, 0, 0, 29);
        Check.due("the first hour of 72", false, desk.wouldRise(1));
        desk.log(0, 0, 0, 99);
        Check.due("ahead of 1", true, desk.wouldRise(0));
        desk.log(0, 0, 0, 100);
        Check.due("the hour of 1", false, desk.wouldRise(0));
        // Reaching below the hour 0.
        desk = Desk.of(1).rule("n()=0", 0, 72, 72).passTo(30);
        Check.due("alarm", 1, desk.alarm(0));
        desk.log(0, 0, 0, 2);
        Check.due("behind it", true, desk.wouldRise(0));
        desk.log(0, 0, 0, 0);
        Check.due("in the hour 0", false, desk.wouldRise(0));
    }

    @Says("Returns whether the question of the rule of an alarm would not be 0")
    static void promise30EachValueBut0() {
        String[] values = {"1", "-1", "2", "8192*8192*8192*8192*2048", "4096*4096*256"};
        for (String value : values) {
            Desk desk = Desk.of(1).rule(value, 0, 1, 72);
            desk.pass(1);
            Check.due("would rise of " + value, true, desk.wouldRise(0));
        }
    }

    @Says("Returns whether the question of the rule of an alarm would not be 0")
    static void promise30WhateverBecameOfTheRule() {
        // Neither its rest, nor a silence, nor that it was dropped, nor the text of now is asked for.
        Desk desk = Desk.of(1).rule("n()=0", 0, 9, 72).silent(0, 2, 1000);
        desk.pass(1);
        desk.dropRules(0).write("0").passTo(20);
        Check.due("would rise", true, desk.wouldRise(0));
        desk.log(0, 0, 0, 0);
        Check.due("would not", false, desk.wouldRise(0));
    }

    @Says("Returns whether the question of the rule of an alarm would not be 0")
    static void promise30OfTheAlarmsOwnRuleAndHour() {
        Desk desk = Desk.of(1).rule("n(:p=1)=0", 0, 2, 4).rule("n(:p=2)=0", 0, 2, 4).passTo(10);
        Check.due("alarms", 4, desk.alarms());
        desk.tell(1, 0, 0, 1).tell(2, 0, 0, 6);
        boolean[] due = {false, true, true, false};
        for (int alarm = 0; alarm < 4; alarm++) {
            Check.due("would rise " + alarm, due[alarm], desk.wouldRise(alarm));
        }
    }

    @Says("Throws `IndexOutOfBoundsException` as told")
    static void promise30NoSuchAlarm() {
        Check.none(() -> Desk.of(1).rule("1", 0, 1, 0), desk -> desk.wouldRise(0),
                desk -> desk.wouldRise(-1));
        Check.none(() -> some(), desk -> desk.wouldRise(-1), desk -> desk.wouldRise(6),
                desk -> desk.wouldRise(LEAST), desk -> desk.wouldRise(GREATEST));
    }
}
