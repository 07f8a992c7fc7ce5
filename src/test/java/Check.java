/** Compares answers with those that are due, and ends a test with 1 if one was not. */
final class Check {
    /** A call whose answer, or exception, is looked at. */
    interface Call {
        long run();
    }

    private static int wrong = 0;
    private static int compared = 0;

    private Check() {
    }

    static void due(String what, long want, long got) {
        compared++;
        if (got != want) {
            wrong++;
            System.out.println(what + " answered " + got + ", due is " + want);
        }
    }

    static void due(String what, boolean want, boolean got) {
        due(what, want ? 1 : 0, got ? 1 : 0);
    }

    /** The exception must be of this very class: what the machine throws is of one below it. */
    static void thrown(String what, Class<? extends RuntimeException> want, Call call) {
        compared++;
        String got;
        try {
            got = "answered " + call.run();
        } catch (RuntimeException e) {
            if (e.getClass() == want) {
                return;
            }
            got = "threw " + e;
        }
        wrong++;
        System.out.println(what + " " + got + ", due is " + want.getSimpleName());
    }

    static void range(String what, Call call) {
        thrown(what, IllegalArgumentException.class, call);
    }

    static void state(String what, Call call) {
        thrown(what, IllegalStateException.class, call);
    }

    static void none(String what, Call call) {
        thrown(what, IndexOutOfBoundsException.class, call);
    }

    static void end() {
        System.out.println(compared + " compared, " + wrong + " wrong");
        if (wrong != 0) {
            System.exit(1);
        }
    }

    // What the tests build their desks with.

    static void text(Pagerloom desk, String text) {
        desk.clearText();
        for (int i = 0; i < text.length(); i++) {
            desk.type(text.charAt(i));
        }
    }

    static void passTo(Pagerloom desk, int hour) {
        while (desk.now() < hour) {
            desk.pass(Math.min(24, hour - desk.now()));
        }
    }

    static Pagerloom withPeople(int people) {
        Pagerloom desk = new Pagerloom();
        for (int i = 0; i < people; i++) {
            desk.addPerson();
        }
        return desk;
    }

    static int rule(Pagerloom desk, String question, int owner, int window, int rest) {
        text(desk, question);
        return desk.addRule(owner, window, rest);
    }
}
