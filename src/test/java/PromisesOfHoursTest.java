/** Promises 7 to 9: pass, now, log. */
public final class PromisesOfHoursTest {
    public static void main(String[] args) {
        Check.all(PromisesOfHoursTest.class);
    }

    /** A desk on which much is going on, so that a pass that is refused would show. */
    private static Desk busy() {
        return Desk.of(3).tell(1, 2, 3, 0).rule("1", 0, 1, 0).rule("n()", 1, 72, 3).turnOff(2, 2);
    }

    // ---- 7: pass

    @Says("Lets hours pass.")
    static void promise07SoManyHours() {
        Desk desk = new Desk();
        int due = 0;
        for (int hours = 1; hours <= 24; hours++) {
            desk.pass(hours);
            due += hours;
            Check.due("now", due, desk.now());
        }
    }

    @Says("1 to 24")
    static void promise07TheFewestAndTheMostHours() {
        Desk desk = new Desk();
        Check.due("pass 1", 0, desk.pass(1));
        Check.due("now", 1, desk.now());
        Check.due("pass 24", 0, desk.pass(24));
        Check.due("now", 25, desk.now());
    }

    @Says("Throws `IllegalArgumentException` if hours is out of range")
    static void promise07NoHoursBesideThese() {
        Check.range(PromisesOfHoursTest::busy, desk -> desk.pass(0), desk -> desk.pass(25),
                desk -> desk.pass(-1), desk -> desk.pass(Integer.MIN_VALUE),
                desk -> desk.pass(Integer.MAX_VALUE));
    }

    @Says("Returns how many alarms rise in them.")
    static void promise07ReturnsTheAlarmsOfTheseHours() {
        Desk desk = Desk.of(1);
        Check.due("without rules", 0, desk.pass(1));
        desk.rule("1", 0, 1, 0);
        Check.due("one rule, one hour", 1, desk.pass(1));
        Check.due("one rule, 24 hours", 24, desk.pass(24));
        desk.rule("1", 0, 1, 3);
        Check.due("two rules, 8 hours", 8 + 2, desk.pass(8));
        desk.rule("0", 0, 1, 0).rule("1", 0, 1, 0);
        Check.due("four rules, one of which never rises", 24 + 6 + 24, desk.pass(24));
        desk.dropRules(0, 1, 3);
        Check.due("what waited or rose before is not counted", 0, desk.pass(24));
    }

    @Says("Returns how many alarms rise in them.")
    static void promise07CountsThoseThatWaitToo() {
        Desk desk = Desk.of(1).rule("1", 0, 1, 0);
        Check.due("in the shift 0", 7, desk.pass(7));
        Check.due("not those that wake now", 1, desk.pass(1));
    }

    @Says("Throws `IllegalStateException` if it would be later than the hour 1000")
    static void promise07UpToTheHour1000() {
        Check.due("24 hours", 1000, afterPass(976, 24));
        Check.due("2 hours", 1000, afterPass(998, 2));
        Check.due("1 hour", 1000, afterPass(999, 1));
    }

    private static int afterPass(int hour, int hours) {
        Desk desk = new Desk().passTo(hour);
        desk.pass(hours);
        return desk.now();
    }

    @Says("Throws `IllegalStateException` if it would be later than the hour 1000")
    static void promise07NotOneHourOfTooManyIsPassed() {
        Check.state(() -> busy().passTo(977), desk -> desk.pass(24));
        Check.state(() -> busy().passTo(999), desk -> desk.pass(2), desk -> desk.pass(24));
        Check.state(() -> busy().passTo(1000), desk -> desk.pass(1), desk -> desk.pass(24));
    }

    @Says("Throws `IllegalArgumentException` if hours is out of range")
    static void promise07TheRangeIsAheadOfTheEnd() {
        Check.range(() -> busy().passTo(1000), desk -> desk.pass(0), desk -> desk.pass(25),
                desk -> desk.pass(-1), desk -> desk.pass(Integer.MAX_VALUE));
    }

    // ---- 8: now

    @Says("Returns the hour of now.")
    static void promise08TheLeastAndTheGreatestHour() {
        Desk desk = new Desk();
        Check.due("now", 0, desk.now());
        Check.due("now, asked again", 0, desk.now());
        desk.pass(1);
        Check.due("now", 1, desk.now());
        desk.passTo(1000);
        Check.due("now", 1000, desk.now());
    }

    // ---- 9: log

    @Says("Tells a log.")
    static void promise09TheLogIsAskedFor() {
        Desk desk = new Desk().passTo(30);
        desk.log(6, 4, -321, 27);
        Values.both(desk, "s(p)*1000+s(l)*100+s(h)*10+n()", 27, 27, 6431);
        Values.both(desk, "s(v)", 0, 30, -321);
    }

    @Says("`part`: 0 to 7")
    static void promise09TheLeastAndTheGreatestPart() {
        Desk desk = new Desk();
        Check.due("log", 0, desk.log(0, 1, 1, 0));
        Check.due("log", 1, desk.log(7, 1, 1, 0));
        Values.both(desk, "n(:p=0)*10+n(:p=7)", 0, 0, 11);
    }

    @Says("`level`: 0 to 5")
    static void promise09TheLeastAndTheGreatestLevel() {
        Desk desk = new Desk();
        Check.due("log", 0, desk.log(1, 0, 1, 0));
        Check.due("log", 1, desk.log(1, 5, 1, 0));
        Values.both(desk, "n(:l=0)*10+n(:l=5)", 0, 0, 11);
    }

    @Says("`value`: -1000 to 1000")
    static void promise09TheLeastAndTheGreatestValue() {
        Desk desk = new Desk();
        Check.due("log", 0, desk.log(1, 1, -1000, 0));
        Check.due("log", 1, desk.log(1, 1, 1000, 0));
        Values.both(desk, "n(:v=-1000)*10+n(:v=1000)", 0, 0, 11);
        Values.both(desk, "t(v)", 0, 0, -1000);
        Values.both(desk, "d(v)", 0, 0, 2);
    }

    @Says("`hour`: 0 to now")
    static void promise09TheLeastAndTheGreatestHour() {
        Desk desk = new Desk();
        Check.due("in the hour 0", 0, desk.log(1, 1, 1, 0));
        desk.passTo(1000);
        Check.due("the least", 1, desk.log(1, 1, 2, 0));
        Check.due("the greatest", 2, desk.log(1, 1, 4, 1000));
        Check.due("between", 3, desk.log(1, 1, 8, 999));
        Values.both(desk, "s(v)", 0, 0, 3);
        Values.both(desk, "s(v)", 1000, 1000, 4);
        Values.both(desk, "s(v)", 999, 999, 8);
    }

    @Says("Throws `IllegalArgumentException` if part, level, value or hour is out of range")
    static void promise09NoneBesideThese() {
        Check.range(() -> busy().passTo(5),
                desk -> desk.log(-1, 0, 0, 0), desk -> desk.log(8, 0, 0, 0),
                desk -> desk.log(0, -1, 0, 0), desk -> desk.log(0, 6, 0, 0),
                desk -> desk.log(0, 0, -1001, 0), desk -> desk.log(0, 0, 1001, 0),
                desk -> desk.log(0, 0, 0, -1), desk -> desk.log(0, 0, 0, 6));
    }

    @Says("Throws `IllegalArgumentException` if part, level, value or hour is out of range")
    static void promise09NoneFarAway() {
        int least = Integer.MIN_VALUE;
        int greatest = Integer.MAX_VALUE;
        Check.range(() -> busy().passTo(5),
                desk -> desk.log(least, 0, 0, 0), desk -> desk.log(greatest, 0, 0, 0),
                desk -> desk.log(0, least, 0, 0), desk -> desk.log(0, greatest, 0, 0),
                desk -> desk.log(0, 0, least, 0), desk -> desk.log(0, 0, greatest, 0),
                desk -> desk.log(0, 0, 0, least), desk -> desk.log(0, 0, 0, greatest),
                desk -> desk.log(greatest, greatest, greatest, greatest));
    }

    @Says("Throws `IllegalArgumentException` if part, level, value or hour is out of range")
    static void promise09NoHourBehindNow() {
        Check.range(Desk::new, desk -> desk.log(0, 0, 0, 1));
        Check.range(() -> new Desk().passTo(1000), desk -> desk.log(0, 0, 0, 1001));
    }

    private static Desk withLogs(int logs) {
        Desk desk = new Desk().passTo(1);
        for (int i = 0; i < logs; i++) {
            desk.log(i % 8, i % 6, i, i % 2);
        }
        return desk;
    }

    @Says("Returns its number.")
    static void promise09TheNumbersOf100Logs() {
        Desk desk = new Desk().passTo(3);
        for (int i = 0; i < 100; i++) {
            Check.due("log", i, desk.log(i % 8, i % 6, i, 3 - i % 4));
        }
        Values.both(desk, "n()", 0, 3, 100);
    }

    @Says("Throws `IllegalStateException` if there are 100 logs")
    static void promise09FullWith100() {
        Check.due("the last one", 99, withLogs(99).log(0, 0, 0, 0));
        Check.state(() -> withLogs(100), desk -> desk.log(0, 0, 0, 0),
                desk -> desk.log(7, 5, 1000, 1));
    }

    @Says("Throws `IllegalArgumentException` if part, level, value or hour is out of range")
    static void promise09TheRangeIsAheadOfTheFullLogs() {
        Check.range(() -> withLogs(100), desk -> desk.log(8, 0, 0, 0),
                desk -> desk.log(0, -1, 0, 0), desk -> desk.log(0, 0, 1001, 0),
                desk -> desk.log(0, 0, 0, 2));
    }
}
