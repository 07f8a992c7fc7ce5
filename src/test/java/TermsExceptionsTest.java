/** Terms: Exceptions. */
public final class TermsExceptionsTest {
    public static void main(String[] args) {
        Check.all(TermsExceptionsTest.class);
    }

    /**
     * In the hour 34, with nothing left to add: 8 people, 100 logs, a full text that is no question,
     * 4 rules, the rule 0 with 5 silences, the rule 3 dropped; three debts, alarms answered, woken and,
     * the last ones, waiting.
     */
    private static Desk full() {
        Desk desk = Desk.of(8).swapShifts(3, 9).swapShifts(13, 14).turnOff(12, 2)
                .turnOff(4, 0, 1, 2, 3, 4, 5, 6, 7).passTo(23);
        desk.rule("n()+1", 0, 72, 1).rule("1", 5, 3, 2).passTo(26).answerAll(true, 0, 1, 2);
        desk.rule("t(v:p=3)>0", 2, 30, 0).rule("d(l)", 2, 30, 70);
        for (int i = 0; i < 5; i++) {
            desk.silence(0, 40 + 2 * i, 40 + 2 * i);
        }
        desk.dropRules(3);
        for (int i = 0; i < 100; i++) {
            desk.log(i % 8, i % 6, 50 - i, i % 26);
        }
        return desk.passTo(34).write("1+".repeat(20));
    }

    @Says("there is no such person, rule or alarm")
    static void theFullDeskIsAsItIsTold() {
        Desk desk = full();
        Check.due("now", 34, desk.now());
        Check.due("debts of 0", 2, desk.owes(0, 1));
        Check.due("debts of 5", 1, desk.owes(5, 1));
        Check.due("alarm 0 was answered", "java.lang.IllegalStateException",
                Check.outcome(() -> desk.answer(0, true)));
        int last = desk.alarms() - 1;
        Check.due("the last alarm waits", -1, desk.woken(last));
        Check.due("alarms", ALARM, last + 1);
        Check.due("waiting", 4, desk.waiting());
        Check.due("errorAt", 40, desk.errorAt());
    }

    // The first number that there is not.
    private static final int PERSON = 8;
    private static final int RULE = 4;
    private static final int ALARM = 16;
    private static final int WAITING = 15;

    private static final Check.Call[] NO_PERSON = {
        desk -> desk.off(-1, 10), desk -> desk.off(PERSON, 10), desk -> desk.nights(-1),
        desk -> desk.nights(PERSON), desk -> desk.owes(-1, 0), desk -> desk.owes(PERSON, 0),
        desk -> desk.owes(0, -1), desk -> desk.owes(0, PERSON), desk -> desk.addRule(-1, 1, 0),
        desk -> desk.addRule(PERSON, 1, 0),
    };

    private static final Check.Call[] NO_RULE = {
        desk -> desk.drop(-1), desk -> desk.drop(RULE), desk -> desk.silence(-1, 40, 40),
        desk -> desk.silence(RULE, 40, 40), desk -> desk.inWindow(-1), desk -> desk.inWindow(RULE),
        desk -> desk.rises(-1), desk -> desk.rises(RULE), desk -> desk.risesAnew(-1),
        desk -> desk.risesAnew(RULE),
    };

    private static final Check.Call[] NO_ALARM = {
        desk -> desk.alarm(-1), desk -> desk.alarm(ALARM), desk -> desk.woken(-1),
        desk -> desk.woken(ALARM), desk -> desk.wokenAt(-1), desk -> desk.wokenAt(ALARM),
        desk -> desk.answer(-1, true), desk -> desk.answer(ALARM, true), desk -> desk.wouldRise(-1),
        desk -> desk.wouldRise(ALARM),
    };

    private static final Check.Call[] OUT_OF_RANGE = {
        desk -> desk.type((char) 31), desk -> desk.type((char) 127), desk -> desk.ask(-1, 34),
        desk -> desk.ask(0, 35), desk -> desk.askByCodes(-1, 34), desk -> desk.askByCodes(0, 35),
        desk -> desk.pass(0), desk -> desk.pass(25), desk -> desk.log(8, 0, 0, 0),
        desk -> desk.log(0, 6, 0, 0), desk -> desk.log(0, 0, 1001, 0), desk -> desk.log(0, 0, 0, 35),
        desk -> desk.off(0, 4), desk -> desk.off(0, 126), desk -> desk.swap(4, 10),
        desk -> desk.swap(10, 126), desk -> desk.swap(10, 10), desk -> desk.planned(4),
        desk -> desk.planned(126), desk -> desk.holder(-1), desk -> desk.holder(5),
        desk -> desk.addRule(0, 0, 0), desk -> desk.addRule(0, 73, 0), desk -> desk.addRule(0, 1, -1),
        desk -> desk.addRule(0, 1, 73), desk -> desk.silence(0, 34, 40),
        desk -> desk.silence(0, 40, 1001),
    };

    private static final Check.Call[] IN_A_WRONG_STATE = {
        desk -> desk.type('1'), desk -> desk.ask(0, 34), desk -> desk.askByCodes(0, 34),
        desk -> desk.log(0, 0, 0, 0), desk -> desk.addPerson(), desk -> desk.swap(10, 18),
        desk -> desk.swap(12, 10), desk -> desk.addRule(0, 1, 0), desk -> desk.drop(3),
        desk -> desk.silence(0, 50, 50), desk -> desk.answer(0, true), desk -> desk.answer(0, false),
        desk -> desk.answer(WAITING, true),
    };

    @Says("IndexOutOfBoundsException: there is no such person, rule or alarm.")
    static void noSuchPerson() {
        Check.none(TermsExceptionsTest::full, NO_PERSON);
    }

    @Says("IndexOutOfBoundsException: there is no such person, rule or alarm.")
    static void noSuchRule() {
        Check.none(TermsExceptionsTest::full, NO_RULE);
    }

    @Says("IndexOutOfBoundsException: there is no such person, rule or alarm.")
    static void noSuchAlarm() {
        Check.none(TermsExceptionsTest::full, NO_ALARM);
    }

    @Says("IllegalArgumentException: another argument is out of its range.")
    static void anotherArgumentIsOutOfItsRange() {
        Check.range(TermsExceptionsTest::full, OUT_OF_RANGE);
    }

    @Says("IllegalStateException, NoSuchElementException: as the method tells.")
    static void theStatesThatTheMethodsTell() {
        Check.state(TermsExceptionsTest::full, IN_A_WRONG_STATE);
        Check.state(() -> full().passTo(1000), desk -> desk.pass(1));
    }

    @Says("IllegalStateException, NoSuchElementException: as the method tells.")
    static void theElementThatIsMissing() {
        Check.missing(TermsExceptionsTest::full, desk -> desk.wokenAt(WAITING));
    }

    @Says("If several apply, the one that is named first in the throws clause is thrown")
    static void thePersonRuleOrAlarmIsNamedFirst() {
        Check.none(TermsExceptionsTest::full, desk -> desk.off(PERSON, 4), desk -> desk.off(-1, 126),
                desk -> desk.addRule(PERSON, 0, 73), desk -> desk.addRule(PERSON, 1, 0),
                desk -> desk.addRule(-1, 73, 0), desk -> desk.silence(RULE, 34, 1001),
                desk -> desk.silence(-1, 40, 39));
    }

    @Says("If several apply, the one that is named first in the throws clause is thrown")
    static void theRangeIsNamedAheadOfTheState() {
        Check.range(TermsExceptionsTest::full, desk -> desk.type((char) 127), desk -> desk.ask(0, 35),
                desk -> desk.askByCodes(35, 35), desk -> desk.log(0, 0, 0, 35),
                desk -> desk.log(-1, -1, -1001, -1), desk -> desk.swap(12, 12),
                desk -> desk.swap(4, 12), desk -> desk.addRule(0, 73, 0),
                desk -> desk.addRule(0, 1, 73), desk -> desk.silence(0, 34, 50),
                desk -> desk.silence(0, 50, 49));
        Check.range(() -> full().passTo(1000), desk -> desk.pass(25), desk -> desk.pass(0));
    }

    @Says("a call that throws changes nothing")
    static void allOfThemTogetherChangeNothing() {
        Twin.same("all of them", TermsExceptionsTest::full, desk -> {
            for (Check.Call[] calls : new Check.Call[][] {NO_PERSON, NO_RULE, NO_ALARM, OUT_OF_RANGE,
                IN_A_WRONG_STATE}) {
                for (Check.Call call : calls) {
                    Check.due("a refused call", true, isRefused(desk, call));
                }
            }
        });
    }

    private static boolean isRefused(Desk desk, Check.Call call) {
        try {
            call.on(desk);
            return false;
        } catch (RuntimeException e) {
            return true;
        }
    }
}
