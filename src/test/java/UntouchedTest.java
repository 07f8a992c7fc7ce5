import java.util.ArrayList;
import java.util.List;

/** A call that throws changes nothing: a desk with such calls answers as its twin without them. */
public final class UntouchedTest {
    public static void main(String[] args) {
        Pagerloom desk = rich();
        List<Check.Call> calls = throwing(desk);
        for (int i = 0; i < calls.size(); i++) {
            String before = told(desk);
            Check.due("the call " + i + " throws", true, throwsAny(calls.get(i)));
            Check.due("the call " + i + " changes nothing", true, before.equals(told(desk)));
        }
        Pagerloom twin = rich();
        for (int day = 0; day < 3; day++) {
            Check.due("pass", twin.pass(24), desk.pass(24));
            Check.due("the desk is as its twin", true, told(twin).equals(told(desk)));
        }
        Check.end();
    }

    private static boolean throwsAny(Check.Call call) {
        try {
            call.run();
            return false;
        } catch (RuntimeException e) {
            return true;
        }
    }

    /** A desk that is full, with debts, alarms that wait, offs, swaps and silences. */
    private static Pagerloom rich() {
        Pagerloom desk = Check.withPeople(8);
        for (int i = 0; i < 60; i++) {
            desk.log(i % 8, i % 6, i, 0);
        }
        desk.swap(3, 9);
        desk.swap(13, 14);
        for (int person = 0; person < 8; person++) {
            desk.off(person, 4);
        }
        desk.off(2, 12);
        Check.passTo(desk, 22);
        Check.rule(desk, "n()+1", 0, 72, 1);
        Check.rule(desk, "1", 5, 3, 2);
        desk.pass(3);
        for (int alarm = 0; alarm < desk.alarms(); alarm++) {
            desk.answer(alarm, true);
        }
        Check.rule(desk, "t(v:p=3)>0", 2, 30, 0);
        Check.rule(desk, "d(l)", 2, 30, 70);
        for (int i = 0; i < 5; i++) {
            desk.silence(0, 40 + 2 * i, 40 + 2 * i);
        }
        desk.drop(3);
        for (int i = 60; i < 100; i++) {
            desk.log(i % 8, i % 6, -i, i % 26);
        }
        desk.pass(8);
        Check.text(desk, "1+".repeat(20));
        return desk;
    }

    private static List<Check.Call> throwing(Pagerloom desk) {
        List<Check.Call> calls = new ArrayList<>();
        int waits = desk.alarms() - 1;
        calls.add(() -> desk.type((char) 31));
        calls.add(() -> desk.type('1'));
        calls.add(() -> desk.ask(0, desk.now() + 1));
        calls.add(() -> desk.ask(0, 0));
        calls.add(() -> desk.askByCodes(1, 0));
        calls.add(() -> desk.askByCodes(0, 0));
        calls.add(() -> desk.pass(0));
        calls.add(() -> desk.pass(25));
        calls.add(() -> desk.log(8, 0, 0, 0));
        calls.add(() -> desk.log(0, 0, 0, 0));
        calls.add(() -> desk.addPerson());
        calls.add(() -> desk.off(8, 10) ? 1 : 0);
        calls.add(() -> desk.off(0, 4) ? 1 : 0);
        calls.add(() -> swapped(desk, 4, 10));
        calls.add(() -> swapped(desk, 10, 10));
        calls.add(() -> swapped(desk, 10, 18));
        calls.add(() -> swapped(desk, 12, 10));
        calls.add(() -> desk.planned(4));
        calls.add(() -> desk.planned(126));
        calls.add(() -> desk.holder(5));
        calls.add(() -> desk.nights(8));
        calls.add(() -> desk.owes(0, 8));
        calls.add(() -> desk.addRule(8, 1, 0));
        calls.add(() -> desk.addRule(0, 73, 0));
        calls.add(() -> desk.addRule(0, 1, 0));
        calls.add(() -> desk.drop(4));
        calls.add(() -> desk.drop(3));
        calls.add(() -> desk.silence(4, 50, 50));
        calls.add(() -> desk.silence(1, desk.now(), 50));
        calls.add(() -> desk.silence(0, 50, 50));
        calls.add(() -> desk.inWindow(4));
        calls.add(() -> desk.rises(4));
        calls.add(() -> desk.risesAnew(4));
        calls.add(() -> desk.alarm(waits + 1));
        calls.add(() -> desk.woken(-1));
        calls.add(() -> desk.wokenAt(waits));
        calls.add(() -> desk.wokenAt(-1));
        calls.add(() -> desk.answer(waits, true));
        calls.add(() -> desk.answer(0, true));
        calls.add(() -> desk.answer(-1, true));
        calls.add(() -> desk.wouldRise(waits + 1) ? 1 : 0);
        return calls;
    }

    private static int swapped(Pagerloom desk, int shift, int other) {
        desk.swap(shift, other);
        return 0;
    }

    /** All that can be asked without changing anything, but for questions of another text. */
    private static String told(Pagerloom desk) {
        StringBuilder told = new StringBuilder();
        told.append(desk.now()).append(' ').append(desk.errorAt()).append(' ').append(desk.next());
        for (int shift = 0; shift <= desk.now() / 8; shift++) {
            told.append(" h").append(desk.holder(shift));
        }
        for (int shift = desk.now() / 8 + 1; shift <= 125; shift++) {
            told.append(" p").append(desk.planned(shift));
        }
        for (int person = 0; person < 8; person++) {
            told.append(" n").append(desk.nights(person));
            for (int other = 0; other < 8; other++) {
                told.append(" o").append(desk.owes(person, other));
            }
        }
        for (int rule = 0; rule < 4; rule++) {
            told.append(" w").append(desk.inWindow(rule)).append(" r").append(desk.rises(rule));
            told.append(" a").append(desk.risesAnew(rule));
        }
        told.append(" w").append(desk.waiting());
        for (int alarm = 0; alarm < desk.alarms(); alarm++) {
            told.append(" a").append(desk.alarm(alarm)).append(" w").append(desk.woken(alarm));
            told.append(desk.wouldRise(alarm) ? " y" : " n");
        }
        return told.toString();
    }
}
