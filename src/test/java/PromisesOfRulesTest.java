/** Promises 18 to 23: addRule, drop, silence, inWindow, rises, risesAnew. */
public final class PromisesOfRulesTest {
    private static final int LEAST = Integer.MIN_VALUE;
    private static final int GREATEST = Integer.MAX_VALUE;

    public static void main(String[] args) {
        Check.all(PromisesOfRulesTest.class);
    }

    /** Two people in the hour 10, and a rule of 1 that has risen in 1, 4, 7 and 10. */
    private static Desk risen() {
        return Desk.of(2).tell(1, 2, 3, 0).rule("1", 1, 5, 2).passTo(10);
    }

    /** With four rules, the rule 3 dropped. */
    private static Desk full() {
        return risen().rule("n()", 0, 72, 0).rule("0", 0, 1, 0).rule("1", 0, 1, 72).dropRules(3);
    }

    // ---- 18: addRule

    @Says("Makes a rule with the text as its question")
    static void promise18TheRuleKeepsItsQuestion() {
        Desk desk = Desk.of(1).tell(2, 0, 0, 0).rule("n(:p=1)", 0, 72, 72).write("1");
        Check.due("not the text of now", 0, desk.pass(3));
        desk.clearText();
        desk.log(1, 0, 0, 3);
        Check.due("not the empty text", 1, desk.pass(1));
        Check.due("rises anew", 1, desk.risesAnew(0));
        Check.due("would rise", true, desk.wouldRise(0));
    }

    @Says("Makes a rule with the text as its question")
    static void promise18AQuestionOf40Chars() {
        Desk desk = Desk.of(1).rule("1-".repeat(17) + "n()-07", 0, 72, 72)
                .rule("1-".repeat(17) + "0+0+15", 0, 72, 72);
        Check.due("pass", 1, desk.pass(1));
        Check.due("alarm", 1, desk.alarm(0));
    }

    @Says("it is asked from the next hour on")
    static void promise18FromTheNextHourOn() {
        Desk desk = Desk.of(1).passTo(5).rule("1", 0, 1, 0);
        Check.due("not in the hour in which it is made", 0, desk.rises(0));
        Check.due("nor anew", 0, desk.risesAnew(0));
        Check.due("in the next one", 1, desk.pass(1));
        Check.due("alarm", 6, desk.alarm(0));
        desk = Desk.of(1).passTo(999).rule("1", 0, 1, 0);
        Check.due("in the last hour", 1, desk.pass(1));
        desk.rule("1", 0, 1, 0);
        Check.due("made in the last hour", 0, desk.risesAnew(1));
    }

    @Says("`owner`: the person whose rule it is")
    static void promise18TheLeastAndTheGreatestOwner() {
        for (int owner : new int[] {0, 7}) {
            int woken = 7 - owner;
            Desk desk = Desk.of(8).write("1").passTo(23);
            for (int person = 0; person < 8; person++) {
                if (person != woken) {
                    desk.off(person, 3);
                }
            }
            Check.due("addRule", 0, desk.addRule(owner, 1, 72));
            desk.pass(1);
            desk.answer(0, true);
            Check.due("owes", 1, desk.owes(owner, woken));
        }
    }

    @Says("`window`: 1 to 72")
    static void promise18TheLeastAndTheGreatestWindow() {
        Desk desk = Desk.of(1).tell(0, 0, 0, 0).write("0");
        Check.due("the least", 0, desk.addRule(0, 1, 0));
        Check.due("the greatest", 1, desk.addRule(0, 72, 0));
        Check.due("of the least", 1, desk.inWindow(0));
        desk.pass(1);
        Check.due("of the least", 0, desk.inWindow(0));
        desk.passTo(71);
        Check.due("of the greatest", 1, desk.inWindow(1));
        desk.pass(1);
        Check.due("of the greatest", 0, desk.inWindow(1));
    }

    @Says("`rest`: 0 to 72")
    static void promise18TheLeastAndTheGreatestRest() {
        Desk desk = Desk.of(1).write("1");
        Check.due("the least", 0, desk.addRule(0, 1, 0));
        Check.due("the greatest", 1, desk.addRule(0, 1, 72));
        desk.passTo(73);
        Check.due("of the least", 73, desk.rises(0));
        Check.due("of the greatest", 1, desk.rises(1));
        desk.pass(1);
        Check.due("of the greatest", 2, desk.rises(1));
    }

    @Says("Returns its number.")
    static void promise18TheNumbersFrom0To3() {
        Desk desk = Desk.of(1).write("1");
        for (int rule = 0; rule < 4; rule++) {
            Check.due("addRule", rule, desk.addRule(0, 1, 0));
            desk.pass(3);
            desk.drop(rule);
        }
    }

    @Says("Throws `IndexOutOfBoundsException` as told, of the owner")
    static void promise18NoSuchOwner() {
        Check.none(() -> new Desk().write("1"), desk -> desk.addRule(0, 1, 0),
                desk -> desk.addRule(-1, 1, 0));
        Check.none(() -> risen(), desk -> desk.addRule(-1, 1, 0), desk -> desk.addRule(2, 1, 0),
                desk -> desk.addRule(LEAST, 1, 0), desk -> desk.addRule(GREATEST, 1, 0));
        Check.none(() -> Desk.of(8).write("1"), desk -> desk.addRule(8, 1, 0));
    }

    @Says("Throws `IllegalArgumentException` if window or rest is out of range")
    static void promise18NoneBesideThese() {
        Check.range(() -> risen(), desk -> desk.addRule(0, 0, 0), desk -> desk.addRule(0, 73, 0),
                desk -> desk.addRule(0, -1, 0), desk -> desk.addRule(0, LEAST, 0),
                desk -> desk.addRule(0, GREATEST, 0), desk -> desk.addRule(0, 1, -1),
                desk -> desk.addRule(0, 1, 73), desk -> desk.addRule(0, 1, LEAST),
                desk -> desk.addRule(0, 1, GREATEST), desk -> desk.addRule(0, 0, 73));
    }

    @Says("Throws `IllegalStateException` if the text is no question")
    static void promise18NoQuestion() {
        for (String text : new String[] {"", "1+", "1<2<3", "n(", "12345", "a", "(".repeat(40)}) {
            Check.state(() -> risen().write(text), desk -> desk.addRule(0, 1, 0));
        }
    }

    @Says("or there are 4 rules, dropped ones with them")
    static void promise18FullWith4() {
        Check.due("the last one", 3, risen().rule("1", 0, 1, 0).rule("1", 0, 1, 0).dropRules(0, 1, 2)
                .addRule(0, 1, 0));
        Check.state(() -> full(), desk -> desk.addRule(0, 1, 0));
        Check.state(() -> full().dropRules(0, 1, 2), desk -> desk.addRule(0, 1, 0));
        Check.state(() -> full().write("1+"), desk -> desk.addRule(0, 1, 0));
    }

    @Says("Throws `IndexOutOfBoundsException` as told, of the owner")
    static void promise18TheOwnerIsAheadOfAll() {
        Check.none(() -> risen(), desk -> desk.addRule(2, 0, 0), desk -> desk.addRule(-1, 1, 73));
        Check.none(() -> risen().write("1+"), desk -> desk.addRule(2, 1, 0));
        Check.none(() -> full().write("1+"), desk -> desk.addRule(2, 1, 0),
                desk -> desk.addRule(-1, 0, -1));
    }

    @Says("Throws `IllegalArgumentException` if window or rest is out of range")
    static void promise18TheRangeIsAheadOfTheState() {
        Check.range(() -> risen().write("1+"), desk -> desk.addRule(0, 0, 0),
                desk -> desk.addRule(0, 1, 73));
        Check.range(() -> full(), desk -> desk.addRule(0, 73, 0), desk -> desk.addRule(0, 1, -1));
    }

    // ---- 19: drop

    @Says("Drops a rule.")
    static void promise19AskedNoMoreFromTheNextHourOn() {
        Desk desk = risen();
        Check.due("drop", 4, desk.drop(0));
        Check.due("pass", 0, desk.pass(24));
        Check.due("rises", 4, desk.rises(0));
        Check.due("rises anew", 4, desk.risesAnew(0));
        Check.due("what rose stays", 4, desk.alarms());
        Check.due("what rose stays", 7, desk.alarm(2));
    }

    @Says("Returns how many alarms of it there were.")
    static void promise19ReturnsItsAlarms() {
        Desk desk = full();
        desk.pass(3);
        Check.due("of the rule 0", 5, desk.drop(0));
        Check.due("of the rule 1", 3, desk.drop(1));
        Check.due("of the rule 2", 0, desk.drop(2));
        desk = Desk.of(1).rule("1", 0, 1, 0);
        Check.due("before any hour", 0, desk.drop(0));
        desk = Desk.of(1).rule("1", 0, 1, 0).passTo(1000);
        Check.due("in the hour 1000", 1000, desk.drop(0));
    }

    @Says("Throws `IndexOutOfBoundsException` as told")
    static void promise19NoSuchRule() {
        Check.none(() -> Desk.of(1), desk -> desk.drop(0), desk -> desk.drop(-1));
        Check.none(() -> risen(), desk -> desk.drop(-1), desk -> desk.drop(1),
                desk -> desk.drop(LEAST), desk -> desk.drop(GREATEST));
        Check.none(() -> full(), desk -> desk.drop(4), desk -> desk.drop(-1));
    }

    @Says("Throws `IllegalStateException` if it was dropped")
    static void promise19DroppedOnce() {
        Check.state(() -> full(), desk -> desk.drop(3));
        Check.state(() -> full().passTo(40), desk -> desk.drop(3));
        Check.state(() -> Desk.of(1).rule("1", 0, 1, 0).dropRules(0), desk -> desk.drop(0));
        Check.state(() -> Desk.of(1).passTo(1000).rule("1", 0, 1, 0).dropRules(0),
                desk -> desk.drop(0));
    }

    // ---- 20: silence

    @Says("Makes a rule silent for some hours.")
    static void promise20SilentFromTheFirstToTheLastHour() {
        Desk desk = Desk.of(1).rule("1", 0, 1, 0).silent(0, 2, 4);
        Check.due("ahead of it", 1, desk.pass(1));
        for (int hour = 2; hour <= 4; hour++) {
            Check.due("in the hour " + hour, 0, desk.pass(1));
        }
        Check.due("behind it", 1, desk.pass(1));
        Check.due("rises anew", 2, desk.risesAnew(0));
    }

    @Says("now + 1 to 1000: the first hour")
    static void promise20TheLeastAndTheGreatestFrom() {
        Desk desk = Desk.of(1).passTo(7).rule("1", 0, 1, 0);
        Check.due("the least", 1, desk.silence(0, 8, 9));
        Check.due("the greatest", 2, desk.silence(0, 1000, 1000));
        desk.pass(3);
        Check.due("alarm", 10, desk.alarm(0));
        desk.passTo(999);
        Check.due("by the hour 999", 990, desk.alarms());
        Check.due("in the hour 1000", 0, desk.pass(1));
        desk = Desk.of(1).passTo(999).rule("1", 0, 1, 0);
        Check.due("the least is the greatest", 1, desk.silence(0, 1000, 1000));
        Check.due("in the hour 1000", 0, desk.pass(1));
    }

    @Says("from to 1000: the last hour")
    static void promise20TheLeastAndTheGreatestTo() {
        Desk desk = Desk.of(1).rule("1", 0, 1, 0).rule("1", 0, 1, 0);
        Check.due("the least", 1, desk.silence(0, 5, 5));
        Check.due("the greatest", 1, desk.silence(1, 5, 1000));
        desk.passTo(1000);
        Check.due("one hour", 999, desk.rises(0));
        Check.due("all hours", 4, desk.rises(1));
        Check.due("one hour, anew", 999, desk.risesAnew(0));
        Check.due("all hours, anew", 4, desk.risesAnew(1));
    }

    @Says("Returns how many silences it has then.")
    static void promise20ReturnsItsSilencesFrom1To5() {
        Desk desk = full();
        for (int count = 1; count <= 5; count++) {
            Check.due("of the rule 1", count, desk.silence(1, 11, 11));
        }
        Check.due("of the rule 0", 1, desk.silence(0, 11, 11));
        desk.pass(5);
        Check.due("of the rule 0, the first one gone by", 2, desk.silence(0, 16, 16));
    }

    @Says("Makes a rule silent")
    static void promise20ADroppedRuleToo() {
        Desk desk = full();
        Check.due("of the dropped rule", 1, desk.silence(3, 11, 1000));
        Check.due("of the dropped rule", 2, desk.silence(3, 11, 11));
    }

    @Says("Throws `IndexOutOfBoundsException` as told")
    static void promise20NoSuchRule() {
        Check.none(() -> Desk.of(1), desk -> desk.silence(0, 1, 1));
        Check.none(() -> risen(), desk -> desk.silence(-1, 11, 11), desk -> desk.silence(1, 11, 11),
                desk -> desk.silence(LEAST, 11, 11), desk -> desk.silence(GREATEST, 11, 11));
        Check.none(() -> full(), desk -> desk.silence(4, 11, 11));
    }

    @Says("Throws `IllegalArgumentException` if from or to is out of range")
    static void promise20NoHoursBesideThese() {
        Check.range(() -> risen(), desk -> desk.silence(0, 10, 11), desk -> desk.silence(0, 10, 10),
                desk -> desk.silence(0, 0, 11), desk -> desk.silence(0, -1, 11),
                desk -> desk.silence(0, 12, 11), desk -> desk.silence(0, 11, 10),
                desk -> desk.silence(0, 11, 1001), desk -> desk.silence(0, 1001, 1001),
                desk -> desk.silence(0, 1000, 1001), desk -> desk.silence(0, 1000, 999),
                desk -> desk.silence(0, 11, -1), desk -> desk.silence(0, LEAST, GREATEST),
                desk -> desk.silence(0, 11, GREATEST), desk -> desk.silence(0, GREATEST, GREATEST),
                desk -> desk.silence(0, LEAST, 11));
        Check.range(() -> Desk.of(1).rule("1", 0, 1, 0), desk -> desk.silence(0, 0, 0),
                desk -> desk.silence(0, 0, 1));
        Check.range(() -> risen().passTo(1000), desk -> desk.silence(0, 1000, 1000),
                desk -> desk.silence(0, 1001, 1001), desk -> desk.silence(0, 1001, 1000));
    }

    private static Desk withFiveSilences() {
        Desk desk = full();
        for (int hour = 11; hour < 16; hour++) {
            desk.silence(0, 2 * hour, 2 * hour);
            desk.silence(3, hour, hour);
        }
        return desk;
    }

    @Says("Throws `IllegalStateException` if it has 5")
    static void promise20FullWith5() {
        Check.state(() -> withFiveSilences(), desk -> desk.silence(0, 11, 11),
                desk -> desk.silence(3, 11, 1000));
        Check.state(() -> withFiveSilences().passTo(40), desk -> desk.silence(0, 41, 41));
        Check.due("of another rule", 1, withFiveSilences().silence(1, 11, 11));
    }

    @Says("Throws `IndexOutOfBoundsException` as told")
    static void promise20TheRuleIsAheadOfTheHours() {
        Check.none(() -> risen(), desk -> desk.silence(1, 10, 10), desk -> desk.silence(-1, 11, 1001));
        Check.none(() -> withFiveSilences(), desk -> desk.silence(4, 0, 0));
    }

    @Says("Throws `IllegalArgumentException` if from or to is out of range")
    static void promise20TheRangeIsAheadOfTheFullSilences() {
        Check.range(() -> withFiveSilences(), desk -> desk.silence(0, 10, 11),
                desk -> desk.silence(0, 11, 1001), desk -> desk.silence(3, 12, 11));
    }

    // ---- 21: inWindow

    @Says("Returns over how many logs a rule would be asked if it was asked now: "
            + "those told by now that are in the window of now")
    static void promise21WhatIsToldInTheHourOfNowToo() {
        Desk desk = Desk.of(1).rule("0", 0, 3, 0);
        Check.due("none", 0, desk.inWindow(0));
        desk.log(0, 0, 0, 0);
        Check.due("one of the hour 0", 1, desk.inWindow(0));
        desk.passTo(20).tell(0, 0, 0, 20).tell(0, 0, 0, 19);
        Check.due("of the hour of now, and late", 2, desk.inWindow(0));
    }

    @Says("those told by now that are in the window of now")
    static void promise21TheFirstAndTheLastHourOfTheWindow() {
        Desk desk = Desk.of(1).passTo(20).rule("0", 0, 3, 0);
        for (int hour = 16; hour <= 20; hour++) {
            desk.log(0, 0, 0, hour);
        }
        int[] due = {3, 2, 1, 0, 0};
        for (int i = 0; i < due.length; i++) {
            Check.due("in the hour " + (20 + i), due[i], desk.inWindow(0));
            desk.pass(1);
        }
    }

    @Says("Returns over how many logs a rule would be asked if it was asked now")
    static void promise21WindowsOf1AndOf72() {
        Desk desk = Desk.of(1).rule("0", 0, 1, 0).rule("0", 0, 72, 0).tell(0, 0, 0, 0).passTo(71)
                .tell(0, 0, 0, 71);
        Check.due("of 1", 1, desk.inWindow(0));
        Check.due("of 72, from the hour 0 on", 2, desk.inWindow(1));
        desk.pass(1);
        Check.due("of 1", 0, desk.inWindow(0));
        Check.due("of 72, from the hour 1 on", 1, desk.inWindow(1));
    }

    @Says("Returns over how many logs a rule would be asked")
    static void promise21WhateverTheQuestionAndTheChoice() {
        Desk desk = Desk.of(1).rule("n(:p=7)", 0, 9, 0).tell(1, 0, 0, 0).tell(2, 0, 0, 0);
        Check.due("inWindow", 2, desk.inWindow(0));
        for (int i = 2; i < 100; i++) {
            desk.log(0, 0, 0, 0);
        }
        Check.due("all logs", 100, desk.inWindow(0));
        desk.pass(8);
        Check.due("all logs, in the hour 8", 100, desk.inWindow(0));
        desk.pass(1);
        Check.due("in the hour 9", 0, desk.inWindow(0));
    }

    @Says("also if it was dropped or is silent")
    static void promise21DroppedOrSilent() {
        Desk desk = Desk.of(1).rule("1", 0, 5, 0).rule("1", 0, 5, 0).silent(1, 1, 9).passTo(4)
                .tell(0, 0, 0, 4).dropRules(0);
        Check.due("dropped", 1, desk.inWindow(0));
        Check.due("silent", 1, desk.inWindow(1));
        desk.passTo(8).tell(0, 0, 0, 7);
        Check.due("dropped, told since then", 2, desk.inWindow(0));
        Check.due("silent", 2, desk.inWindow(1));
        desk.pass(1);
        Check.due("dropped, the window goes on", 1, desk.inWindow(0));
    }

    @Says("Throws `IndexOutOfBoundsException` as told")
    static void promise21NoSuchRule() {
        Check.none(() -> Desk.of(1), desk -> desk.inWindow(0));
        Check.none(() -> risen(), desk -> desk.inWindow(-1), desk -> desk.inWindow(1),
                desk -> desk.inWindow(LEAST), desk -> desk.inWindow(GREATEST));
        Check.none(() -> full(), desk -> desk.inWindow(4));
    }

    // ---- 22 and 23: rises and risesAnew

    @Says("Returns how many alarms of a rule there were.")
    static void promise22OfEachRuleAlone() {
        Desk desk = full();
        int[] due = {4, 0, 0, 0};
        for (int rule = 0; rule < 4; rule++) {
            Check.due("rises " + rule, due[rule], desk.rises(rule));
        }
        desk.pass(3);
        int[] then = {5, 3, 0, 0};
        for (int rule = 0; rule < 4; rule++) {
            Check.due("rises " + rule, then[rule], desk.rises(rule));
        }
    }

    @Says("Returns how many alarms of a rule there were.")
    static void promise22FromNoneToTheMost() {
        Desk desk = Desk.of(1).rule("1", 0, 1, 0);
        Check.due("none", 0, desk.rises(0));
        desk.passTo(1000);
        Check.due("the most", 1000, desk.rises(0));
    }

    @Says("Throws `IndexOutOfBoundsException` as told")
    static void promise22NoSuchRule() {
        Check.none(() -> Desk.of(1), desk -> desk.rises(0));
        Check.none(() -> risen(), desk -> desk.rises(-1), desk -> desk.rises(1),
                desk -> desk.rises(LEAST), desk -> desk.rises(GREATEST));
        Check.none(() -> full(), desk -> desk.rises(4));
    }

    @Says("Returns the same, found by going through all hours again")
    static void promise23FromNoneToTheMost() {
        Desk desk = Desk.of(1).rule("1", 0, 1, 0).rule("1", 0, 72, 72);
        Check.due("none", 0, desk.risesAnew(0));
        desk.pass(1);
        Check.due("the first", 1, desk.risesAnew(0));
        desk.passTo(1000);
        Check.due("the most", 1000, desk.risesAnew(0));
        Check.due("with the greatest rest", 14, desk.risesAnew(1));
        Check.due("the same", 14, desk.rises(1));
    }

    @Says("each with all logs that were told by then")
    static void promise23LateLogsChangeNothing() {
        Desk desk = Desk.of(1).rule("n()=0", 0, 5, 0);
        desk.pass(10);
        desk.tell(0, 0, 0, 3).tell(0, 0, 0, 10);
        Check.due("rises", 10, desk.rises(0));
        Check.due("rises anew", 10, desk.risesAnew(0));
        desk.pass(10);
        Check.due("rises", 16, desk.rises(0));
        Check.due("rises anew", 16, desk.risesAnew(0));
        // A late log that would have raised one.
        desk = Desk.of(1).rule("n()", 0, 5, 0);
        desk.pass(10);
        desk.tell(0, 0, 0, 2);
        Check.due("rises anew", 0, desk.risesAnew(0));
    }

    @Says("each with all logs that were told by then")
    static void promise23WhatIsToldInAnHourCountsFromTheNextOneOn() {
        Desk desk = Desk.of(1).rule("n()", 0, 2, 0);
        desk.pass(4);
        desk.log(0, 0, 0, 4);
        Check.due("in the hour 4", 0, desk.risesAnew(0));
        desk.pass(1);
        Check.due("in the hour 5", 1, desk.risesAnew(0));
        desk.log(0, 0, 0, 4);
        Check.due("told late in the hour 5", 1, desk.risesAnew(0));
        desk.pass(1);
        Check.due("in the hour 6", 1, desk.risesAnew(0));
        Check.due("the same", 1, desk.rises(0));
    }

    @Says("Returns the same")
    static void promise23WithSilencesRestAndDrop() {
        Desk desk = Desk.of(1).passTo(3).rule("1", 0, 1, 1).silent(0, 4, 4).silent(0, 7, 8);
        for (int hour = 4; hour <= 12; hour++) {
            desk.pass(1);
            Check.due("in the hour " + hour, desk.rises(0), desk.risesAnew(0));
        }
        // 5, 9, 11.
        Check.due("rises anew", 3, desk.risesAnew(0));
        desk.drop(0);
        desk.pass(24);
        Check.due("dropped", 3, desk.risesAnew(0));
    }

    @Says("Returns the same")
    static void promise23AskedTwiceAndBetweenTheHours() {
        Desk desk = Desk.of(1).rule("n()", 0, 3, 1).rule("1", 0, 1, 4);
        desk.tell(0, 0, 0, 0);
        for (int hour = 1; hour <= 9; hour++) {
            desk.pass(1);
            desk.risesAnew(1);
            Check.due("the rule 0", 1, desk.risesAnew(0));
            Check.due("the rule 0 once more", 1, desk.risesAnew(0));
        }
        Check.due("rises", 1, desk.rises(0));
        Check.due("alarms", 3, desk.alarms());
    }

    @Says("Throws `IndexOutOfBoundsException` as told")
    static void promise23NoSuchRule() {
        Check.none(() -> Desk.of(1), desk -> desk.risesAnew(0));
        Check.none(() -> risen(), desk -> desk.risesAnew(-1), desk -> desk.risesAnew(1),
                desk -> desk.risesAnew(LEAST), desk -> desk.risesAnew(GREATEST));
        Check.none(() -> full(), desk -> desk.risesAnew(4));
    }
}
