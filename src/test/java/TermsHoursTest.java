/** Terms: Hours, shifts and logs; and how long an object is used. */
public final class TermsHoursTest {
    public static void main(String[] args) {
        Check.all(TermsHoursTest.class);
    }

    @Says("Now is an hour, 0 at first")
    static void nowIsZeroAtFirst() {
        Check.due("now", 0, new Desk().now());
    }

    @Says("hours are passed one by one")
    static void eachHourComesOnItsOwn() {
        Desk desk = Desk.of(1).rule("1", 0, 1, 0);
        Check.due("pass", 24, desk.pass(24));
        for (int alarm = 0; alarm < 24; alarm++) {
            Check.due("alarm " + alarm, alarm + 1, desk.alarm(alarm));
        }
    }

    @Says("hours are passed one by one")
    static void eachShiftBeginsWithinOnePass() {
        Desk desk = Desk.of(3);
        desk.pass(24);
        Check.due("holder 1", 1, desk.holder(1));
        Check.due("holder 2", 2, desk.holder(2));
        Check.due("holder 3", 0, desk.holder(3));
    }

    @Says("up to 1000")
    static void theLastHourIs1000() {
        Desk desk = new Desk().passTo(999);
        Check.due("pass to 1000", 0, desk.pass(1));
        Check.due("now", 1000, desk.now());
    }

    @Says("up to 1000")
    static void noHourComesBehind1000() {
        Check.state(() -> Desk.of(1).rule("1", 0, 1, 40).passTo(1000), desk -> desk.pass(1));
    }

    private static void hourOfTheDay(int hour, int due) {
        Desk desk = new Desk().passTo(hour).tell(0, 0, 0, hour);
        Values.both(desk, "s(h)", hour, hour, due);
        Values.both(desk, "n(:h=" + due + ")", hour, hour, 1);
        Values.both(desk, "n(:h<" + due + "|h>" + due + ")", hour, hour, 0);
    }

    @Says("A day has 24 hours, from a multiple of 24 on")
    static void aDayBeginsWithAMultipleOf24() {
        for (int hour : new int[] {0, 24, 48, 72, 960, 984}) {
            hourOfTheDay(hour, 0);
        }
    }

    @Says("A day has 24 hours")
    static void aDayEndsWithItsHour23() {
        for (int hour : new int[] {23, 47, 71, 959, 983}) {
            hourOfTheDay(hour, 23);
        }
    }

    @Says("the hour of the day is the rest of an hour divided by 24")
    static void theHourOfTheDayIsTheRest() {
        hourOfTheDay(1, 1);
        hourOfTheDay(22, 22);
        hourOfTheDay(25, 1);
        hourOfTheDay(36, 12);
        hourOfTheDay(1000, 16);
    }

    @Says("The shift k has the hours 8 * k to 8 * k + 7")
    static void aShiftBeginsWithItsFirstHour() {
        for (int shift : new int[] {1, 2, 3, 124, 125}) {
            Desk desk = Desk.of(1).passTo(8 * shift - 1);
            Check.due("ahead of " + shift, 0, desk.planned(shift));
            Check.due("ahead of " + shift, "java.lang.IllegalArgumentException",
                    Check.outcome(() -> desk.holder(shift)));
            desk.pass(1);
            Check.due("holder " + shift, 0, desk.holder(shift));
            Check.due("in " + shift, "java.lang.IllegalArgumentException",
                    Check.outcome(() -> desk.planned(shift)));
        }
    }

    @Says("The shift k has the hours 8 * k to 8 * k + 7")
    static void aShiftLastsToItsLastHour() {
        for (int shift : new int[] {0, 1, 2, 123, 124}) {
            Desk desk = Desk.of(1).passTo(8 * shift + 7);
            Check.due("holder " + shift, shift == 0 ? -1 : 0, desk.holder(shift));
            Check.due("planned " + (shift + 1), 0, desk.planned(shift + 1));
            Check.due("holder " + (shift + 1), "java.lang.IllegalArgumentException",
                    Check.outcome(() -> desk.holder(shift + 1)));
        }
    }

    @Says("it is a night if k is a multiple of 3")
    static void eachThirdShiftIsANight() {
        Desk desk = Desk.of(1);
        for (int shift = 1; shift <= 125; shift++) {
            desk.pass(8);
            Check.due("nights by the shift " + shift, shift / 3, desk.nights(0));
        }
    }

    @Says("it is a night if k is a multiple of 3")
    static void theShiftsBesideANightAreNone() {
        // 1 is off, so that the rule of 1 wakes 0 in vain: at the edges of the shifts 2, 3 and 4.
        int[] hours = {23, 24, 31, 32};
        int[] debts = {0, 1, 1, 0};
        for (int i = 0; i < hours.length; i++) {
            int hour = hours[i];
            Desk desk = Desk.of(2).turnOff(hour / 8, 1).passTo(hour - 1).rule("1", 1, 1, 72);
            desk.pass(1);
            Check.due("woken in " + hour, 0, desk.woken(0));
            Check.due("debts of " + hour, debts[i], desk.answer(0, true));
        }
    }

    @Says("A log has a part, 0 to 7")
    static void theLeastAndTheGreatestPart() {
        Desk desk = new Desk().tell(0, 3, 0, 0).tell(7, 3, 0, 0);
        Values.both(desk, "m(p)", 0, 0, 0);
        Values.both(desk, "x(p)", 0, 0, 7);
        Values.both(desk, "n(:p=0)*10+n(:p=7)", 0, 0, 11);
    }

    @Says("A log has a part, 0 to 7")
    static void noPartBesideThese() {
        Check.range(Desk::new, desk -> desk.log(-1, 0, 0, 0), desk -> desk.log(8, 0, 0, 0));
    }

    @Says("a level, 0 to 5")
    static void theLeastAndTheGreatestLevel() {
        Desk desk = new Desk().tell(3, 0, 0, 0).tell(3, 5, 0, 0);
        Values.both(desk, "m(l)", 0, 0, 0);
        Values.both(desk, "x(l)", 0, 0, 5);
        Values.both(desk, "n(:l=0)*10+n(:l=5)", 0, 0, 11);
    }

    @Says("a level, 0 to 5")
    static void noLevelBesideThese() {
        Check.range(Desk::new, desk -> desk.log(0, -1, 0, 0), desk -> desk.log(0, 6, 0, 0));
    }

    @Says("a value, -1000 to 1000")
    static void theLeastAndTheGreatestValue() {
        Desk desk = new Desk().tell(0, 0, -1000, 0).tell(0, 0, 1000, 0);
        Values.both(desk, "m(v)", 0, 0, -1000);
        Values.both(desk, "x(v)", 0, 0, 1000);
        Values.both(desk, "n(:v=-1000)*10+n(:v=1000)", 0, 0, 11);
    }

    @Says("a value, -1000 to 1000")
    static void noValueBesideThese() {
        Check.range(Desk::new, desk -> desk.log(0, 0, -1001, 0), desk -> desk.log(0, 0, 1001, 0));
    }

    @Says("an hour, not later than the one in which it is told")
    static void toldInItsOwnHourAndLater() {
        Desk desk = new Desk().passTo(40);
        Check.due("in its own hour", 0, desk.log(0, 0, 4, 40));
        Check.due("late", 1, desk.log(0, 0, 2, 39));
        Check.due("as late as can be", 2, desk.log(0, 0, 1, 0));
        Values.both(desk, "s(v)", 40, 40, 4);
        Values.both(desk, "s(v)", 39, 39, 2);
        Values.both(desk, "s(v)", 0, 0, 1);
        Values.both(desk, "s(v)", 1, 38, 0);
    }

    @Says("an hour, not later than the one in which it is told")
    static void notToldAheadOfItsHour() {
        Check.range(() -> new Desk().passTo(40), desk -> desk.log(0, 0, 0, 41));
    }

    @Says("Logs are numbered from 0, at most 100")
    static void theFirstLogIs0AndTheLast99() {
        Desk desk = new Desk();
        Check.due("the first", 0, desk.log(0, 0, 0, 0));
        for (int i = 1; i < 99; i++) {
            desk.log(0, 0, 0, 0);
        }
        Check.due("the last", 99, desk.log(0, 0, 0, 0));
        Values.both(desk, "n()", 0, 0, 100);
    }

    private static Desk fullOfLogs() {
        Desk desk = new Desk();
        for (int i = 0; i < 100; i++) {
            desk.log(i % 8, i % 6, i, 0);
        }
        return desk;
    }

    @Says("at most 100")
    static void noLogBehindTheLast() {
        Check.state(TermsHoursTest::fullOfLogs, desk -> desk.log(0, 0, 0, 0));
    }

    @Says("their order is by hours")
    static void anEarlierHourIsAheadHoweverLateItIsTold() {
        Desk desk = new Desk().passTo(9).tell(0, 0, 5, 9).tell(0, 0, 4, 8).tell(0, 0, 3, 0);
        Values.both(desk, "t(v)", 0, 9, 3);
        Values.both(desk, "t(v)", 1, 9, 4);
        Values.both(desk, "t(v:v>3)", 0, 9, 4);
        Values.both(desk, "t(v)", 9, 9, 5);
    }

    @Says("of the same hour by numbers")
    static void ofTheSameHourTheLowerNumberIsAhead() {
        Desk desk = new Desk().passTo(9).tell(0, 0, 2, 4).tell(0, 0, 1, 4).tell(0, 0, 9, 5);
        Values.both(desk, "t(v)", 0, 9, 2);
        Values.both(desk, "t(v:v<2|v>8)", 0, 9, 1);
        // Told late: behind those of its hour, ahead of the next one.
        desk.tell(0, 0, 3, 4);
        Values.both(desk, "t(v)", 0, 9, 2);
        Values.both(desk, "t(v:v=1|v=3)", 0, 9, 1);
        Values.both(desk, "t(v:v=3|v=9)", 0, 9, 3);
    }

    @Says("An object is used for at most 512 calls after it has been made")
    static void theCall512IsStillAnswered() {
        Desk desk = Desk.of(8);
        for (int i = 0; i < 100; i++) {
            desk.log(i % 8, i % 6, 10 * i, 0);
        }
        for (int rule = 0; rule < 4; rule++) {
            desk.rule("1", rule, 72, 0);
        }
        desk.write("s(v:" + "!".repeat(24) + "p<8)-s(v)/2");
        desk.passTo(1000);
        Check.due("alarms", 4000, desk.alarms());
        int debts = 0;
        for (int alarm = 0; desk.calls() < 509; alarm++) {
            boolean isNight = Math.max(alarm / 4 + 1, 8) / 8 % 3 == 0;
            int person = Math.max(alarm / 4 + 1, 8) / 8 % 8;
            debts += isNight && person != alarm % 4 ? 1 : 0;
            // The debts of a night are all to come: nothing is paid behind the hour 1000.
            Check.due("answer " + alarm, debts, desk.answer(alarm, true));
        }
        Check.due("the call 510", 1000, desk.risesAnew(3));
        Check.due("the call 511", 24750, desk.ask(0, 1000));
        Check.due("the call 512", 24750, desk.askByCodes(0, 1000));
        Check.due("calls", 512, desk.calls());
    }
}
