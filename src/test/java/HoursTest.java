/** Promises 7 to 9: pass, now, log. */
public final class HoursTest {
    public static void main(String[] args) {
        pass();
        passAnswersAlarms();
        passToTheEnd();
        log();
        fullOfLogs();
        Check.end();
    }

    private static void pass() {
        Pagerloom desk = new Pagerloom();
        for (int hours : new int[] {0, 25, -1, Integer.MIN_VALUE, Integer.MAX_VALUE}) {
            Check.range("pass " + hours, () -> desk.pass(hours));
        }
        Check.due("now", 0, desk.now());
        Check.due("pass 1", 0, desk.pass(1));
        Check.due("now", 1, desk.now());
        Check.due("pass 24", 0, desk.pass(24));
        Check.due("now", 25, desk.now());
    }

    private static void passAnswersAlarms() {
        Pagerloom desk = Check.withPeople(1);
        Check.rule(desk, "1", 0, 1, 0);
        Check.due("pass 1", 1, desk.pass(1));
        Check.due("pass 24", 24, desk.pass(24));
        Check.rule(desk, "1", 0, 1, 3);
        Check.due("two rules", 8 + 2, desk.pass(8));
        Check.due("alarms", 35, desk.alarms());
        desk.drop(0);
        Check.due("one rule", 1, desk.pass(1));
        Check.due("alarms", 36, desk.alarms());
    }

    private static void passToTheEnd() {
        Pagerloom desk = new Pagerloom();
        Check.passTo(desk, 990);
        Check.state("pass 11 from 990", () -> desk.pass(11));
        Check.state("pass 24 from 990", () -> desk.pass(24));
        Check.range("pass 25 from 990", () -> desk.pass(25));
        Check.due("now", 990, desk.now());
        Check.due("pass 10", 0, desk.pass(10));
        Check.due("now", 1000, desk.now());
        Check.state("pass 1 from 1000", () -> desk.pass(1));
        Check.range("pass 0 from 1000", () -> desk.pass(0));
        Check.due("now", 1000, desk.now());
    }

    private static void log() {
        Pagerloom desk = new Pagerloom();
        desk.pass(3);
        int[][] wrong = {{-1, 0, 0, 0}, {8, 0, 0, 0}, {0, -1, 0, 0}, {0, 6, 0, 0}, {0, 0, -1001, 0},
            {0, 0, 1001, 0}, {0, 0, 0, -1}, {0, 0, 0, 4}, {0, 0, 0, Integer.MAX_VALUE},
            {Integer.MIN_VALUE, 0, 0, 0}, {0, Integer.MAX_VALUE, 0, 0}, {0, 0, Integer.MIN_VALUE, 0}};
        for (int[] row : wrong) {
            Check.range("log " + java.util.Arrays.toString(row),
                    () -> desk.log(row[0], row[1], row[2], row[3]));
        }
        Check.due("least log", 0, desk.log(0, 0, -1000, 0));
        Check.due("greatest log", 1, desk.log(7, 5, 1000, 3));
        Check.due("late log", 2, desk.log(3, 2, 0, 1));
        Check.text(desk, "n()");
        Check.due("how many", 3, desk.ask(0, 3));
        Check.due("in the hour 1", 1, desk.ask(1, 1));
        Check.due("in the hour 2", 0, desk.ask(2, 2));
        Check.text(desk, "s(p)*1000+s(l)*10+n()");
        Check.due("the greatest one", 7051, desk.ask(3, 3));
    }

    private static void fullOfLogs() {
        Pagerloom desk = new Pagerloom();
        desk.pass(1);
        for (int i = 0; i < 100; i++) {
            Check.due("log " + i, i, desk.log(i % 8, i % 6, i, i % 2));
        }
        Check.state("the log 100", () -> desk.log(0, 0, 0, 0));
        Check.range("a wrong log 100", () -> desk.log(0, 0, 0, 2));
        Check.text(desk, "n()");
        Check.due("how many", 100, desk.ask(0, 1));
        Check.due("of the hour 0", 50, desk.ask(0, 0));
    }
}
