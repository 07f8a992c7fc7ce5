import java.util.function.LongSupplier;
import java.util.function.Supplier;

/** Tells whether a refused call has changed a desk: all that it answers from then on is looked at. */
final class Twin {
    /** Calls on a desk, some of which change it, and what they answered. */
    private interface Probe {
        void on(Desk desk, StringBuilder told);
    }

    private static final Probe[] PROBES = {
        Twin::text, Twin::logs, Twin::rota, Twin::changesOfRota, Twin::rules, Twin::changesOfRules,
        Twin::alarms, Twin::answers, Twin::hoursToCome,
    };

    private Twin() {
    }

    /** Each probe has desks of its own, so that none sees what another one changes. */
    static void same(String what, Supplier<Desk> made, Check.Call refused) {
        for (int i = 0; i < PROBES.length; i++) {
            Desk desk = made.get();
            try {
                refused.on(desk);
            } catch (RuntimeException e) {
                // Due to be thrown; whether it is the right one is looked at elsewhere.
            }
            Check.due(what + ", afterwards (" + i + ")", told(PROBES[i], made.get()),
                    told(PROBES[i], desk));
        }
    }

    private static String told(Probe probe, Desk desk) {
        StringBuilder told = new StringBuilder();
        probe.on(desk, told);
        return told.toString();
    }

    private static void put(StringBuilder told, LongSupplier call) {
        told.append(Check.outcome(call)).append(' ');
    }

    private static void text(Desk desk, StringBuilder told) {
        int now = desk.now();
        told.append(now).append(' ');
        put(told, () -> desk.errorAt());
        put(told, () -> desk.ask(0, now));
        put(told, () -> desk.askByCodes(0, now));
        for (char sign : new char[] {'1', ')', '+', 'n'}) {
            put(told, () -> desk.type(sign));
            put(told, () -> desk.errorAt());
            put(told, () -> desk.ask(0, now));
        }
        put(told, () -> desk.clearText());
        put(told, () -> desk.errorAt());
    }

    private static void logs(Desk desk, StringBuilder told) {
        int now = desk.now();
        for (String question : new String[] {"s(v)*8+s(p)", "t(v)+s(l)", "s(h)*100+n()", "t(p:v<0)"}) {
            desk.write(question);
            put(told, () -> desk.ask(0, now));
            put(told, () -> desk.askByCodes(now / 2, now));
        }
        for (int i = 0; i < 102; i++) {
            put(told, () -> desk.log(7, 5, 1000, now));
        }
        put(told, () -> desk.ask(0, now));
    }

    private static void rota(Desk desk, StringBuilder told) {
        int shiftOfNow = desk.now() / 8;
        for (int shift = 0; shift <= 125; shift++) {
            int asked = shift;
            boolean isToCome = shift > shiftOfNow;
            put(told, () -> isToCome ? desk.planned(asked) : desk.holder(asked));
        }
        put(told, () -> desk.next());
        people(desk, told);
    }

    private static void people(Desk desk, StringBuilder told) {
        for (int i = 0; i < 64; i++) {
            int person = i / 8;
            int other = i % 8;
            put(told, () -> desk.owes(person, other));
        }
        for (int i = 0; i < 8; i++) {
            int person = i;
            put(told, () -> desk.nights(person));
        }
    }

    private static void changesOfRota(Desk desk, StringBuilder told) {
        int next = desk.now() / 8 + 1;
        for (int shift : new int[] {next, next + 1, next + 2, next + 3, next + 4, 125}) {
            for (int i = 0; i < 8; i++) {
                int person = i;
                put(told, () -> desk.off(person, shift) ? 1 : 0);
                put(told, () -> desk.off(person, shift) ? 1 : 0);
            }
            put(told, () -> swapped(desk, shift, next + 2));
            put(told, () -> desk.planned(shift));
        }
        for (int i = 0; i < 9; i++) {
            put(told, () -> desk.addPerson());
        }
    }

    private static int swapped(Desk desk, int shift, int other) {
        desk.swap(shift, other);
        return 0;
    }

    private static void rules(Desk desk, StringBuilder told) {
        for (int i = 0; i < 5; i++) {
            int rule = i;
            put(told, () -> desk.inWindow(rule));
            put(told, () -> desk.rises(rule));
            put(told, () -> desk.risesAnew(rule));
        }
    }

    private static void changesOfRules(Desk desk, StringBuilder told) {
        int now = desk.now();
        for (int i = 0; i < 5; i++) {
            int rule = i;
            for (int times = 0; times < 6; times++) {
                put(told, () -> desk.silence(rule, now + 3, now + 3));
            }
            put(told, () -> desk.drop(rule));
        }
        for (int i = 0; i < 5; i++) {
            put(told, () -> desk.addRule(0, 2, 1));
        }
        desk.write("1");
        for (int i = 0; i < 5; i++) {
            put(told, () -> desk.addRule(0, 2, 1));
        }
        put(told, () -> desk.pass(9));
        rules(desk, told);
    }

    private static void alarms(Desk desk, StringBuilder told) {
        put(told, () -> desk.alarms());
        put(told, () -> desk.waiting());
        for (int i = 0; i < 40; i++) {
            int alarm = i;
            put(told, () -> desk.alarm(alarm));
            put(told, () -> desk.woken(alarm));
            put(told, () -> desk.wokenAt(alarm));
            put(told, () -> desk.wouldRise(alarm) ? 1 : 0);
        }
    }

    private static void answers(Desk desk, StringBuilder told) {
        for (int i = 0; i < 40; i++) {
            int alarm = i;
            put(told, () -> desk.answer(alarm, true));
        }
        people(desk, told);
    }

    private static void hoursToCome(Desk desk, StringBuilder told) {
        for (int hours : new int[] {1, 7, 24, 24, 24}) {
            put(told, () -> desk.pass(hours));
            int shift = desk.now() / 8;
            put(told, () -> desk.holder(shift));
            put(told, () -> desk.next());
            put(told, () -> desk.alarms());
            put(told, () -> desk.waiting());
        }
        people(desk, told);
        rules(desk, told);
    }
}
