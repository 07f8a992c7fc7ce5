/** Promises 18 to 23: addRule, drop, silence, inWindow, rises, risesAnew. */
public final class RulesTest {
    public static void main(String[] args) {
        addRule();
        addRuleRefused();
        askedFromTheNextHourOn();
        rest();
        drop();
        silence();
        silenceRefused();
        silencesAreOfOneRule();
        window();
        inWindow();
        lateLogs();
        negativeValuesRise();
        questionStays();
        risesAnewGoesByWhatWasTold();
        risesAnewOfADroppedRule();
        Check.end();
    }

    private static void addRule() {
        Pagerloom desk = Check.withPeople(8);
        Check.text(desk, "1");
        Check.due("least rule", 0, desk.addRule(0, 1, 0));
        Check.due("greatest rule", 1, desk.addRule(7, 72, 72));
        desk.drop(1);
        Check.due("rule 2", 2, desk.addRule(7, 72, 0));
        Check.due("rule 3", 3, desk.addRule(0, 1, 72));
        Check.state("rule 4", () -> desk.addRule(0, 1, 0));
        Check.range("rule 4, wrong window", () -> desk.addRule(0, 0, 0));
        Check.none("rule 4, no owner", () -> desk.addRule(8, 1, 0));
        Check.none("rises 4", () -> desk.rises(4));
        Check.due("the text stays", 1, desk.clearText());
        Check.due("three rules rise", 3, desk.pass(1));
    }

    private static void addRuleRefused() {
        Pagerloom desk = Check.withPeople(1);
        Check.text(desk, "n()>");
        Check.state("no question", () -> desk.addRule(0, 1, 0));
        Check.none("owner -1", () -> desk.addRule(-1, 1, 0));
        Check.none("owner 1", () -> desk.addRule(1, 1, 0));
        Check.none("owner 1, wrong window", () -> desk.addRule(1, 0, 0));
        int[][] wrong = {{0, 0}, {73, 0}, {-1, 0}, {1, -1}, {1, 73}, {Integer.MAX_VALUE, 0},
            {1, Integer.MIN_VALUE}};
        for (int[] row : wrong) {
            Check.range("window " + row[0] + " rest " + row[1], () -> desk.addRule(0, row[0], row[1]));
        }
        desk.type('0');
        for (int[] row : wrong) {
            Check.range("window " + row[0] + " rest " + row[1], () -> desk.addRule(0, row[0], row[1]));
        }
        Check.none("no rule was made", () -> desk.rises(0));
        Check.due("rule 0", 0, desk.addRule(0, 1, 0));
    }

    private static void askedFromTheNextHourOn() {
        Pagerloom desk = Check.withPeople(1);
        desk.pass(5);
        Check.rule(desk, "1", 0, 1, 0);
        Check.due("not in the hour in which it is made", 0, desk.rises(0));
        Check.due("nor anew", 0, desk.risesAnew(0));
        Check.due("pass", 1, desk.pass(1));
        Check.due("the hour", 6, desk.alarm(0));
        Check.rule(desk, "0", 0, 1, 0);
        Check.due("0 does not rise", 3, desk.pass(3));
        Check.due("rises of 1", 0, desk.rises(1));
        Check.due("rises anew of 1", 0, desk.risesAnew(1));
        Check.due("rises of 0", 4, desk.rises(0));
        Check.due("rises anew of 0", 4, desk.risesAnew(0));
    }

    private static void rest() {
        for (int rest : new int[] {0, 1, 2, 7, 71, 72}) {
            Pagerloom desk = Check.withPeople(1);
            Check.rule(desk, "1", 0, 1, rest);
            Check.passTo(desk, 200);
            int due = (200 - 1) / (rest + 1) + 1;
            Check.due("rises, rest " + rest, due, desk.rises(0));
            Check.due("rises anew, rest " + rest, due, desk.risesAnew(0));
            Check.due("second alarm, rest " + rest, 1 + rest + 1, desk.alarm(1));
        }
    }

    private static void drop() {
        Pagerloom desk = Check.withPeople(1);
        Check.none("drop 0", () -> desk.drop(0));
        Check.rule(desk, "1", 0, 1, 0);
        Check.rule(desk, "1", 0, 1, 1);
        Check.none("drop 2", () -> desk.drop(2));
        Check.none("drop -1", () -> desk.drop(-1));
        desk.pass(4);
        Check.due("drop", 4, desk.drop(0));
        Check.state("drop again", () -> desk.drop(0));
        desk.pass(4);
        Check.due("rises no more", 4, desk.rises(0));
        Check.due("the other one does", 4, desk.drop(1));
        Check.state("drop again", () -> desk.drop(1));
        Check.due("alarms", 8, desk.alarms());
    }

    private static void silence() {
        Pagerloom desk = Check.withPeople(1);
        Check.rule(desk, "1", 0, 1, 0);
        desk.pass(2);
        Check.due("silence", 1, desk.silence(0, 3, 3));
        Check.due("silence", 2, desk.silence(0, 5, 7));
        Check.due("silence", 3, desk.silence(0, 6, 9));
        Check.due("silence", 4, desk.silence(0, 1000, 1000));
        Check.due("silence", 5, desk.silence(0, 12, 12));
        Check.state("a sixth one", () -> desk.silence(0, 20, 20));
        Check.range("a sixth one, wrong", () -> desk.silence(0, 2, 20));
        desk.pass(11);
        int[] due = {1, 2, 4, 10, 11, 13};
        Check.due("alarms", due.length, desk.alarms());
        for (int i = 0; i < due.length && i < desk.alarms(); i++) {
            Check.due("alarm " + i, due[i], desk.alarm(i));
        }
        Check.due("rises anew", due.length, desk.risesAnew(0));
        Check.passTo(desk, 999);
        Check.due("rises", due.length + 986, desk.rises(0));
        Check.due("silent in the hour 1000", 0, desk.pass(1));
        Check.due("rises anew", due.length + 986, desk.risesAnew(0));
    }

    private static void silenceRefused() {
        Pagerloom desk = Check.withPeople(1);
        Check.none("silence 0", () -> desk.silence(0, 1, 1));
        Check.rule(desk, "1", 0, 1, 0);
        Check.none("silence 1", () -> desk.silence(1, 1, 1));
        Check.none("silence 1, wrong hours", () -> desk.silence(1, 0, 0));
        Check.none("silence -1", () -> desk.silence(-1, 1, 1));
        desk.pass(5);
        int[][] wrong = {{5, 6}, {0, 6}, {-1, 6}, {7, 6}, {6, 1001}, {1001, 1001}, {6, 5}, {6, -1},
            {Integer.MIN_VALUE, Integer.MAX_VALUE}, {6, Integer.MAX_VALUE}};
        for (int[] row : wrong) {
            Check.range("silence " + row[0] + " " + row[1], () -> desk.silence(0, row[0], row[1]));
        }
        Check.due("none was made", 1, desk.silence(0, 6, 1000));
        desk.drop(0);
        Check.due("of a dropped rule", 2, desk.silence(0, 6, 6));
        Check.passTo(desk, 1000);
        Check.range("behind the end", () -> desk.silence(0, 1001, 1001));
        Check.range("at the end", () -> desk.silence(0, 1000, 1000));
    }

    private static void silencesAreOfOneRule() {
        Pagerloom desk = Check.withPeople(1);
        Check.rule(desk, "1", 0, 1, 0);
        Check.rule(desk, "1", 0, 1, 0);
        desk.silence(1, 1, 2);
        Check.due("one of two is silent", 4, desk.pass(3));
        Check.due("rises", 3, desk.rises(0));
        Check.due("rises", 1, desk.rises(1));
        Check.due("rises anew", 3, desk.risesAnew(0));
        Check.due("rises anew", 1, desk.risesAnew(1));
    }

    /** The window of an hour has as many hours as it tells, the last one being that hour. */
    private static void window() {
        for (int window : new int[] {1, 2, 24, 72}) {
            Pagerloom desk = Check.withPeople(1);
            Check.rule(desk, "n()", 0, window, 0);
            desk.pass(10);
            desk.log(0, 0, 0, 10);
            desk.pass(24);
            Check.passTo(desk, 200);
            // The hours 11 to 10 + window - 1 have the hour 10 in their windows.
            Check.due("rises, window " + window, window - 1, desk.rises(0));
            Check.due("rises anew, window " + window, window - 1, desk.risesAnew(0));
        }
    }

    private static void inWindow() {
        Pagerloom desk = Check.withPeople(1);
        Check.none("inWindow 0", () -> desk.inWindow(0));
        Check.rule(desk, "0", 0, 3, 0);
        Check.rule(desk, "n(:p=7)", 0, 72, 0);
        Check.none("inWindow 2", () -> desk.inWindow(2));
        Check.none("inWindow -1", () -> desk.inWindow(-1));
        Check.due("none yet", 0, desk.inWindow(0));
        desk.log(0, 0, 0, 0);
        Check.due("in the hour 0", 1, desk.inWindow(0));
        desk.pass(2);
        desk.log(0, 0, 0, 2);
        desk.log(0, 0, 0, 1);
        Check.due("three hours", 3, desk.inWindow(0));
        desk.silence(0, 3, 1000);
        desk.pass(1);
        Check.due("three hours of four, silent", 2, desk.inWindow(0));
        desk.drop(0);
        Check.due("three hours of four, dropped", 2, desk.inWindow(0));
        Check.due("seventy-two hours, whatever the question", 3, desk.inWindow(1));
        Check.passTo(desk, 71);
        Check.due("hours 0 to 71", 3, desk.inWindow(1));
        desk.pass(1);
        Check.due("hours 1 to 72", 2, desk.inWindow(1));
        Check.due("hours 70 to 72", 0, desk.inWindow(0));
    }

    private static void lateLogs() {
        Pagerloom desk = Check.withPeople(1);
        Check.rule(desk, "n()", 0, 4, 0);
        desk.pass(6);
        desk.log(0, 0, 0, 4);
        Check.due("not asked again in the same hour", 0, desk.alarms());
        Check.due("the late log counts in 7", 1, desk.pass(1));
        Check.due("but no more in 8", 0, desk.pass(1));
        desk.log(0, 0, 0, 5);
        Check.due("too late", 0, desk.pass(1));
        Check.due("rises", 1, desk.rises(0));
        Check.due("rises anew", 1, desk.risesAnew(0));
    }

    private static void negativeValuesRise() {
        Pagerloom desk = Check.withPeople(1);
        Check.rule(desk, "-1", 0, 1, 0);
        Check.rule(desk, "4096*4096*4096*4096*4096*8", 0, 1, 0);
        Check.rule(desk, "4096*4096*256", 0, 1, 0);
        Check.due("each value that is not 0", 3, desk.pass(1));
        Check.due("anew", 3, desk.risesAnew(0) + desk.risesAnew(1) + desk.risesAnew(2));
        Check.due("late", true, desk.wouldRise(1) && desk.wouldRise(2) && desk.wouldRise(0));
    }

    private static void questionStays() {
        Pagerloom desk = Check.withPeople(1);
        Check.rule(desk, "n(:p=1)", 0, 72, 72);
        Check.text(desk, "1");
        desk.log(2, 0, 0, 0);
        Check.due("the rule keeps its question", 0, desk.pass(3));
        desk.log(1, 0, 0, 0);
        desk.clearText();
        Check.due("the rule keeps its question", 1, desk.pass(3));
    }

    private static void risesAnewGoesByWhatWasTold() {
        Pagerloom desk = Check.withPeople(1);
        Check.rule(desk, "n()=0", 0, 5, 0);
        desk.pass(10);
        Check.due("rises", 10, desk.rises(0));
        desk.log(0, 0, 0, 3);
        desk.log(0, 0, 0, 10);
        Check.due("logs that came late change nothing", 10, desk.risesAnew(0));
        desk.pass(10);
        Check.due("rises", 16, desk.rises(0));
        Check.due("rises anew", 16, desk.risesAnew(0));
        Check.none("risesAnew 1", () -> desk.risesAnew(1));
        Check.none("risesAnew -1", () -> desk.risesAnew(-1));
        Check.none("rises 1", () -> desk.rises(1));
        Check.none("rises -1", () -> desk.rises(-1));
    }

    private static void risesAnewOfADroppedRule() {
        Pagerloom desk = Check.withPeople(1);
        desk.pass(3);
        Check.rule(desk, "1", 0, 1, 1);
        desk.silence(0, 4, 4);
        desk.pass(5);
        desk.drop(0);
        desk.pass(5);
        Check.due("rises", 2, desk.rises(0));
        Check.due("rises anew", 2, desk.risesAnew(0));
        Check.rule(desk, "1", 0, 1, 0);
        desk.drop(1);
        desk.pass(5);
        Check.due("dropped at once", 0, desk.rises(1));
        Check.due("dropped at once, anew", 0, desk.risesAnew(1));
    }
}
