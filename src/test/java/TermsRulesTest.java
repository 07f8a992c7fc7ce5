/** Terms: Rules and alarms. */
public final class TermsRulesTest {
    public static void main(String[] args) {
        Check.all(TermsRulesTest.class);
    }

    private static void alarms(Desk desk, int... due) {
        int[] got = new int[desk.alarms()];
        for (int i = 0; i < got.length; i++) {
            got[i] = desk.alarm(i);
        }
        Check.due("alarms", due, got);
    }

    private static void woke(Desk desk, int alarm, int person, int hour) {
        Check.due("woken " + alarm, person, desk.woken(alarm));
        Check.due("wokenAt " + alarm, hour, desk.wokenAt(alarm));
    }

    private static void waits(Desk desk, int... alarms) {
        for (int alarm : alarms) {
            Check.due("woken " + alarm, -1, desk.woken(alarm));
            Check.due("wokenAt " + alarm, "java.util.NoSuchElementException",
                    Check.outcome(() -> desk.wokenAt(alarm)));
        }
    }

    // ---- rules

    @Says("Rules are numbered from 0, at most 4.")
    static void theFirstRuleIs0AndTheLast3() {
        Desk desk = Desk.of(1).write("1");
        for (int rule = 0; rule < 4; rule++) {
            Check.due("addRule", rule, desk.addRule(0, 1, 0));
        }
        Check.due("all are asked", 4, desk.pass(1));
        alarms(desk, 1, 10001, 20001, 30001);
    }

    @Says("Rules are numbered from 0, at most 4.")
    static void noRuleBehindTheLast() {
        Check.state(() -> Desk.of(1).rule("1", 0, 1, 0).rule("1", 0, 1, 0).rule("1", 0, 1, 0)
                .rule("1", 0, 1, 0), desk -> desk.addRule(0, 1, 0));
    }

    /** The hours in which a rule with a window rises after one log of the hour 80, told in it. */
    private static int[] risesBehindALog(int window) {
        Desk desk = Desk.of(1).passTo(80).rule("n()", 0, window, 0).tell(0, 0, 0, 80).passTo(160);
        int[] got = new int[desk.alarms()];
        for (int i = 0; i < got.length; i++) {
            got[i] = desk.alarm(i);
        }
        Check.due("rises anew", got.length, desk.risesAnew(0));
        return got;
    }

    @Says("a window, 1 to 72 hours")
    static void theLeastAndTheGreatestWindow() {
        Check.due("1", new int[0], risesBehindALog(1));
        Check.due("2", new int[] {81}, risesBehindALog(2));
        Check.due("3", new int[] {81, 82}, risesBehindALog(3));
        int[] due = new int[71];
        for (int i = 0; i < due.length; i++) {
            due[i] = 81 + i;
        }
        Check.due("72", due, risesBehindALog(72));
    }

    @Says("a window, 1 to 72 hours")
    static void noWindowBesideThese() {
        Check.range(() -> Desk.of(1).write("1"), desk -> desk.addRule(0, 0, 0),
                desk -> desk.addRule(0, 73, 0));
    }

    @Says("a rest, 0 to 72 hours")
    static void theLeastAndTheGreatestRest() {
        alarms(Desk.of(1).rule("1", 0, 1, 0).passTo(5), 1, 2, 3, 4, 5);
        alarms(Desk.of(1).rule("1", 0, 1, 72).passTo(147), 1, 74, 147);
    }

    @Says("a rest, 0 to 72 hours")
    static void noRestBesideThese() {
        Check.range(() -> Desk.of(1).write("1"), desk -> desk.addRule(0, 1, -1),
                desk -> desk.addRule(0, 1, 73));
    }

    @Says("it can be dropped")
    static void aDroppedRuleIsAskedNoMore() {
        Desk desk = Desk.of(1).rule("1", 0, 1, 0).rule("1", 0, 1, 0);
        desk.pass(2);
        desk.drop(0);
        Check.due("pass", 2, desk.pass(2));
        alarms(desk, 1, 10001, 2, 10002, 10003, 10004);
        desk.drop(1);
        Check.due("pass", 0, desk.pass(24));
    }

    @Says("it can be dropped")
    static void droppedInTheHourInWhichItIsMade() {
        Desk desk = Desk.of(1).rule("1", 0, 1, 0);
        desk.drop(0);
        Check.due("pass", 0, desk.pass(9));
        Check.due("rises", 0, desk.rises(0));
        Check.due("rises anew", 0, desk.risesAnew(0));
        desk = Desk.of(1).passTo(9).rule("1", 0, 1, 0);
        desk.drop(0);
        Check.due("pass", 0, desk.pass(9));
        Check.due("rises anew", 0, desk.risesAnew(0));
    }

    // ---- how rules are asked

    @Says("In each hour that comes")
    static void askedFromTheHour1ToTheHour1000() {
        Desk desk = Desk.of(1).rule("1", 0, 72, 0).passTo(1000);
        Check.due("alarms", 1000, desk.alarms());
        Check.due("the first", 1, desk.alarm(0));
        Check.due("the last", 1000, desk.alarm(999));
        Check.due("rises anew", 1000, desk.risesAnew(0));
    }

    @Says("once its shift has begun, if it is its first one")
    static void inAFirstHourTheNewHolderIsWoken() {
        Desk desk = Desk.of(3).passTo(14).rule("1", 0, 1, 0);
        desk.pass(3);
        woke(desk, 0, 1, 15);
        woke(desk, 1, 2, 16);
        woke(desk, 2, 2, 17);
    }

    @Says("the rules that are not dropped are asked by their numbers")
    static void theAlarmsOfAnHourGoByTheRulesNumbers() {
        Desk desk = Desk.of(1).rule("1", 0, 1, 1).rule("1", 0, 1, 2).rule("0", 0, 1, 0)
                .rule("1", 0, 1, 0);
        desk.pass(4);
        alarms(desk, 1, 10001, 30001, 30002, 3, 30003, 10004, 30004);
        desk.drop(1);
        desk.pass(3);
        alarms(desk, 1, 10001, 30001, 30002, 3, 30003, 10004, 30004, 5, 30005, 30006, 7, 30007);
    }

    @Says("the question is run over the logs, told by then")
    static void whatIsToldInAnHourIsToldTooLateForIt() {
        Desk desk = Desk.of(1).rule("n()", 0, 72, 0);
        desk.pass(3);
        desk.log(0, 0, 0, 3);
        Check.due("not asked anew in the hour 3", 0, desk.alarms());
        Check.due("asked in the hour 4", 1, desk.pass(1));
        alarms(desk, 4);
        Check.due("rises anew", 1, desk.risesAnew(0));
    }

    @Says("the question is run over the logs, told by then")
    static void whatIsToldAheadOfTheRuleCountsToo() {
        Desk desk = Desk.of(1).tell(0, 0, 0, 0).rule("n()", 0, 3, 0);
        desk.pass(5);
        alarms(desk, 1, 2);
    }

    @Says("of the hours of its window: as many as the window tells, the last one being that hour.")
    static void theFirstHourOfAWindowIsInItTheOneAheadIsNot() {
        // The rule is asked in the hour 20 over the hours 16 to 20; the log is told in the hour 19.
        for (int hour = 14; hour <= 19; hour++) {
            Desk desk = Desk.of(1).passTo(19).rule("n()", 0, 5, 0).tell(0, 0, 0, hour);
            Check.due("a log of the hour " + hour, hour >= 16 ? 1 : 0, desk.pass(1));
        }
    }

    @Says("of the hours of its window: as many as the window tells, the last one being that hour.")
    static void aWindowCanReachBelowTheHour0() {
        Desk desk = Desk.of(1).tell(0, 0, 0, 0).rule("n()", 0, 72, 0).passTo(100);
        Check.due("alarms", 71, desk.alarms());
        Check.due("the last", 71, desk.alarm(70));
        Check.due("rises anew", 71, desk.risesAnew(0));
    }

    @Says("If its value is not 0")
    static void eachValueBut0Raises() {
        String[] risen = {"1", "-1", "9999", "8192*8192*8192*8192*2048", "4096*4096*256", "1<2"};
        for (String question : risen) {
            Desk desk = Desk.of(1).rule(question, 0, 1, 0);
            Check.due("pass of " + question, 1, desk.pass(1));
            Check.due("rises anew of " + question, 1, desk.risesAnew(0));
            Check.due("would rise of " + question, true, desk.wouldRise(0));
        }
        for (String question : new String[] {"0", "-0", "1-1", "2<1", "n()", "7/0", "4096/4097"}) {
            Desk desk = Desk.of(1).rule(question, 0, 1, 0);
            Check.due("pass of " + question, 0, desk.pass(1));
            Check.due("rises anew of " + question, 0, desk.risesAnew(0));
        }
    }

    // ---- rest and silence

    @Says("more hours than the rest have gone by since the last alarm of this rule (if there was one)")
    static void moreHoursThanTheRest() {
        int[] rests = {0, 1, 2, 3, 23, 24, 71, 72};
        for (int rest : rests) {
            Desk desk = Desk.of(1).passTo(10).rule("1", 0, 1, rest);
            Check.due("the first hour, rest " + rest, 1, desk.pass(1));
            for (int hours = 0; hours < rest; hours++) {
                Check.due("rests, rest " + rest, 0, desk.pass(1));
            }
            Check.due("rises again, rest " + rest, 1, desk.pass(1));
            alarms(desk, 11, 12 + rest);
            Check.due("rises anew, rest " + rest, 2, desk.risesAnew(0));
        }
    }

    @Says("since the last alarm of this rule (if there was one)")
    static void theRestGoesByTheLastAlarmAlone() {
        // Value 0 in the hour 3, in which the rest is over: it rises as soon as it is not 0.
        Desk desk = Desk.of(1).rule("n()=0", 0, 2, 1);
        desk.pass(2);
        desk.log(0, 0, 0, 2);
        desk.pass(3);
        alarms(desk, 1, 4);
        // Before the first alarm nothing rests, however short ago the rule was made.
        desk = Desk.of(1).rule("n()", 0, 9, 72);
        desk.pass(1);
        desk.log(0, 0, 0, 1);
        Check.due("the first alarm", 1, desk.pass(1));
    }

    @Says("since the last alarm of this rule")
    static void anotherRulesAlarmMakesNoRest() {
        Desk desk = Desk.of(1).rule("1", 0, 1, 72);
        desk.pass(1);
        desk.rule("1", 0, 1, 72);
        desk.pass(1);
        alarms(desk, 1, 10002);
    }

    @Says("and no silence of the rule has this hour")
    static void aSilenceHasItsFirstAndItsLastHour() {
        Desk desk = Desk.of(1).rule("1", 0, 1, 0).silent(0, 3, 5).silent(0, 7, 7);
        desk.pass(8);
        alarms(desk, 1, 2, 6, 8);
        Check.due("rises anew", 4, desk.risesAnew(0));
    }

    @Says("and no silence of the rule has this hour")
    static void fiveSilencesAndSomeOverOthers() {
        Desk desk = Desk.of(1).rule("1", 0, 1, 0).silent(0, 2, 4).silent(0, 4, 6).silent(0, 3, 3)
                .silent(0, 9, 9).silent(0, 1000, 1000);
        desk.pass(10);
        alarms(desk, 1, 7, 8, 10);
        desk.passTo(999);
        Check.due("by the hour 999", 4 + 989, desk.rises(0));
        Check.due("in the hour 1000", 0, desk.pass(1));
        Check.due("rises anew", 4 + 989, desk.risesAnew(0));
    }

    @Says("and no silence of the rule has this hour")
    static void aSilenceMakesNoRest() {
        Desk desk = Desk.of(1).rule("1", 0, 1, 3).silent(0, 5, 6);
        desk.pass(11);
        alarms(desk, 1, 7, 11);
    }

    @Says("and no silence of the rule has this hour")
    static void anotherRulesSilenceIsNone() {
        Desk desk = Desk.of(1).rule("1", 0, 1, 0).rule("1", 0, 1, 0).silent(1, 1, 1).silent(0, 2, 2);
        desk.pass(2);
        alarms(desk, 1, 10002);
        Check.due("rises anew", 1, desk.risesAnew(0));
        Check.due("rises anew", 1, desk.risesAnew(1));
    }

    // ---- alarms

    @Says("Alarms are numbered from 0.")
    static void theFirstAlarmIs0() {
        Desk desk = Desk.of(1).rule("1", 0, 1, 0);
        desk.pass(2);
        Check.due("alarm 0", 1, desk.alarm(0));
        Check.due("alarm 1", 2, desk.alarm(1));
        Check.due("alarm -1", "java.lang.IndexOutOfBoundsException",
                Check.outcome(() -> desk.alarm(-1)));
        Check.due("alarm 2", "java.lang.IndexOutOfBoundsException",
                Check.outcome(() -> desk.alarm(2)));
    }

    @Says("Alarms are numbered from 0.")
    static void theMostAlarms() {
        Desk desk = Desk.of(1).rule("1", 0, 1, 0).rule("1", 0, 1, 0).rule("1", 0, 1, 0)
                .rule("1", 0, 1, 0).passTo(1000);
        Check.due("alarms", 4000, desk.alarms());
        Check.due("the first", 1, desk.alarm(0));
        Check.due("the last", 31000, desk.alarm(3999));
        Check.due("one between", 20500, desk.alarm(4 * 499 + 2));
        woke(desk, 3999, 0, 1000);
        Check.due("waiting", 0, desk.waiting());
        Check.due("alarm 4000", "java.lang.IndexOutOfBoundsException",
                Check.outcome(() -> desk.alarm(4000)));
    }

    @Says("An alarm wakes the holder of the shift in which it rises")
    static void wokenFromTheFirstToTheLastHourOfTheShift() {
        Desk desk = Desk.of(3).passTo(15).rule("1", 0, 1, 0).passTo(24);
        for (int alarm = 0; alarm < 8; alarm++) {
            woke(desk, alarm, 2, 16 + alarm);
        }
        woke(desk, 8, 0, 24);
        Check.due("waiting", 0, desk.waiting());
    }

    @Says("An alarm wakes the holder of the shift in which it rises")
    static void theHolderIsWokenNotTheOneWhoIsPlanned() {
        Desk desk = Desk.of(3).turnOff(2, 2).passTo(15).rule("1", 0, 1, 72);
        desk.pass(1);
        woke(desk, 0, 0, 16);
    }

    @Says("if there is none, it waits, and wakes the holder of the next shift that has one")
    static void anAlarmOfTheShift0WaitsForTheNext() {
        Desk desk = Desk.of(2).rule("1", 0, 1, 5);
        desk.pass(7);
        Check.due("waiting", 2, desk.waiting());
        waits(desk, 0, 1);
        desk.pass(1);
        Check.due("waiting", 0, desk.waiting());
        woke(desk, 0, 1, 8);
        woke(desk, 1, 1, 8);
    }

    @Says("the holder of the next shift that has one")
    static void shiftsThatHaveNoneArePassedOver() {
        Desk desk = Desk.of(2).turnOff(2, 0, 1).turnOff(3, 0, 1).turnOff(4, 0).passTo(15)
                .rule("1", 0, 1, 7);
        desk.pass(1);
        waits(desk, 0);
        desk.passTo(24);
        waits(desk, 0, 1);
        desk.passTo(31);
        waits(desk, 0, 1);
        Check.due("waiting", 2, desk.waiting());
        desk.pass(1);
        woke(desk, 0, 1, 32);
        woke(desk, 1, 1, 32);
        woke(desk, 2, 1, 32);
        Check.due("waiting", 0, desk.waiting());
    }

    @Says("the holder of the next shift that has one")
    static void whoComesInAShiftIsNotItsHolder() {
        Desk desk = Desk.of(1).turnOff(1, 0).passTo(7).rule("1", 0, 1, 0);
        desk.pass(1);
        desk.addPerson();
        desk.pass(1);
        waits(desk, 0, 1);
        desk.passTo(16);
        woke(desk, 0, 0, 16);
        woke(desk, 1, 0, 16);
    }

    @Says("the holder of the next shift that has one")
    static void withoutALaterHolderItWaitsToTheEnd() {
        Desk desk = Desk.of(1).turnOff(125, 0).turnOff(124, 0).passTo(991).rule("1", 0, 1, 8)
                .passTo(1000);
        alarms(desk, 992);
        waits(desk, 0);
        desk = Desk.of(1).turnOff(125, 0).passTo(999).rule("1", 0, 1, 0).passTo(1000);
        alarms(desk, 1000);
        waits(desk, 0);
        Check.due("waiting", 1, desk.waiting());
    }

    @Says("when that begins, ahead of all rules, those that wait in their order.")
    static void thoseThatWaitWakeAheadOfTheRules() {
        Desk desk = Desk.of(2).rule("1", 0, 1, 0).rule("1", 1, 1, 3);
        desk.pass(8);
        alarms(desk, 1, 10001, 2, 3, 4, 5, 10005, 6, 7, 8);
        for (int alarm = 0; alarm < 10; alarm++) {
            woke(desk, alarm, 1, 8);
        }
        Check.due("waiting", 0, desk.waiting());
    }

    @Says("when that begins")
    static void aDroppedRulesAlarmsStillWake() {
        Desk desk = Desk.of(2).rule("1", 0, 1, 0);
        desk.pass(2);
        desk.drop(0);
        desk.pass(6);
        woke(desk, 0, 1, 8);
        woke(desk, 1, 1, 8);
    }

    // ---- answers and debts

    /** Four people; the rule of 0 has woken 2 in the first hour of the night 3; 1 owns rule 1. */
    private static Desk nightOf2() {
        Desk desk = Desk.of(4).turnOff(3, 0, 1, 3).passTo(23).rule("1", 0, 1, 72).rule("1", 1, 1, 72);
        desk.pass(1);
        return desk;
    }

    @Says("Who was woken answers an alarm once")
    static void anAlarmIsAnsweredOnce() {
        Check.due("the answer", 1, nightOf2().answer(0, true));
        Check.state(() -> nightOf2().answerAll(true, 0), desk -> desk.answer(0, true),
                desk -> desk.answer(0, false));
        Check.state(() -> nightOf2().answerAll(false, 0), desk -> desk.answer(0, true),
                desk -> desk.answer(0, false));
    }

    @Says("Who was woken answers an alarm once")
    static void anAlarmCanBeAnsweredLate() {
        Desk desk = nightOf2().passTo(1000);
        Check.due("the answer", 1, desk.answer(0, true));
        Check.due("owes", 1, desk.owes(0, 2));
    }

    @Says("if it was in vain")
    static void anAlarmThatWasNotInVainCostsNothing() {
        Desk desk = nightOf2();
        Check.due("the answer", 0, desk.answer(0, false));
        Check.due("owes", 0, desk.owes(0, 2));
        Check.due("the other one", 1, desk.answer(1, true));
    }

    @Says("and woke in a night")
    static void onlyAWakingInANightCosts() {
        int[] hours = {16, 23, 24, 31, 32, 39, 48, 55, 56, 984, 991, 992, 1000};
        for (int hour : hours) {
            int shift = hour / 8;
            Desk desk = Desk.of(2).turnOff(shift, 1).passTo(hour - 1).rule("1", 1, 1, 72);
            desk.pass(1);
            woke(desk, 0, 0, hour);
            int due = shift % 3 == 0 ? 1 : 0;
            Check.due("the answer of " + hour, due, desk.answer(0, true));
            Check.due("owes of " + hour, due, desk.owes(1, 0));
        }
    }

    @Says("and woke in a night")
    static void theHourOfTheWakingCountsNotThatOfTheRising() {
        // Rose in a day, woke in a night.
        Desk desk = Desk.of(2).turnOff(2, 0, 1).turnOff(3, 1).passTo(20).rule("1", 1, 1, 72);
        desk.passTo(24);
        alarms(desk, 21);
        woke(desk, 0, 0, 24);
        Check.due("the answer", 1, desk.answer(0, true));
        // Rose in a night, woke in a day.
        desk = Desk.of(2).turnOff(3, 0, 1).turnOff(4, 1).passTo(30).rule("1", 1, 1, 72);
        desk.passTo(32);
        alarms(desk, 31);
        woke(desk, 0, 0, 32);
        Check.due("the answer", 0, desk.answer(0, true));
        // Rose in the shift 0, which is a night of nobody.
        desk = Desk.of(2).turnOff(1, 1).rule("1", 1, 1, 72);
        desk.pass(8);
        woke(desk, 0, 0, 8);
        Check.due("the answer", 0, desk.answer(0, true));
    }

    @Says("somebody who is not the owner of its rule")
    static void wakingTheOwnerCostsNothing() {
        Desk desk = Desk.of(2).turnOff(3, 0).passTo(23).rule("1", 1, 1, 72).rule("1", 0, 1, 72);
        desk.pass(1);
        woke(desk, 0, 1, 24);
        Check.due("the owner", 0, desk.answer(0, true));
        Check.due("owes itself", 0, desk.owes(1, 1));
        Check.due("another one", 1, desk.answer(1, true));
        Check.due("owes", 1, desk.owes(0, 1));
    }

    @Says("the owner owes that person a night")
    static void theOwnerOwesTheOneWhoWasWoken() {
        Desk desk = nightOf2().answerAll(true, 0);
        for (int person = 0; person < 4; person++) {
            for (int other = 0; other < 4; other++) {
                int due = person == 0 && other == 2 ? 1 : 0;
                Check.due(person + " owes " + other, due, desk.owes(person, other));
            }
        }
    }

    @Says("the owner owes that person a night")
    static void theOwnerOfADroppedRuleOwesToo() {
        Desk desk = nightOf2().dropRules(0);
        Check.due("the answer", 1, desk.answer(0, true));
        Check.due("owes", 1, desk.owes(0, 2));
    }

    @Says("the owner owes that person a night")
    static void eachAnswerIsADebtOfItsOwn() {
        Desk desk = Desk.of(2).turnOff(3, 1).passTo(23).rule("1", 1, 1, 0);
        desk.pass(8);
        for (int alarm = 0; alarm < 8; alarm++) {
            Check.due("the answer " + alarm, alarm + 1, desk.answer(alarm, true));
            Check.due("owes", alarm + 1, desk.owes(1, 0));
        }
    }

    @Says("a debt, behind all others.")
    static void debtsGoByTheOrderOfTheAnswers() {
        // The night 6 is of 2: the first answer tells who pays, not the first alarm.
        Desk desk = nightOf2().answerAll(true, 1, 0).dropRules(0, 1).passTo(48);
        Check.due("holder 6", 1, desk.holder(6));
        desk = nightOf2().answerAll(true, 0, 1).dropRules(0, 1).passTo(48);
        Check.due("holder 6", 0, desk.holder(6));
    }

    @Says("a debt, behind all others.")
    static void aDebtBehindAPaidOne() {
        Desk desk = nightOf2().answerAll(true, 0).passTo(48);
        Check.due("holder 6", 0, desk.holder(6));
        Check.due("debts", 1, desk.answer(1, true));
        desk.dropRules(0, 1).passTo(144);
        Check.due("holder 18", 1, desk.holder(18));
    }
}
