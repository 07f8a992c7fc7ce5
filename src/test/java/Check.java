import java.lang.reflect.InvocationTargetException;
import java.lang.reflect.Method;
import java.util.ArrayList;
import java.util.Arrays;
import java.util.Comparator;
import java.util.List;
import java.util.NoSuchElementException;
import java.util.function.LongSupplier;
import java.util.function.Supplier;

/** Compares answers with those that are due, and ends a test with 1 if one was not. */
final class Check {
    /** A call on a desk that is due to be refused. */
    interface Call {
        void on(Desk desk);
    }

    private static String test = "";
    private static int wrong = 0;
    private static int compared = 0;

    private Check() {
    }

    /** The tests of a class: its methods that tell which words of the document they look at. */
    static List<Method> testsOf(Class<?> tests) {
        List<Method> found = new ArrayList<>();
        for (Method method : tests.getDeclaredMethods()) {
            if (method.isAnnotationPresent(Says.class)) {
                found.add(method);
            }
        }
        found.sort(Comparator.comparing(Method::getName));
        return found;
    }

    static void all(Class<?> tests) {
        for (Method method : testsOf(tests)) {
            test = method.getName() + ": ";
            int before = compared;
            try {
                method.invoke(null);
            } catch (InvocationTargetException e) {
                fail("threw " + e.getCause());
            } catch (IllegalAccessException e) {
                fail("can't be run");
            }
            if (compared == before) {
                fail("compares nothing");
            }
        }
        end();
    }

    static void fail(String what) {
        compared++;
        wrong++;
        System.out.println(test + what);
    }

    static void due(String what, long want, long got) {
        compared++;
        if (got != want) {
            wrong++;
            System.out.println(test + what + " answered " + got + ", due is " + want);
        }
    }

    static void due(String what, boolean want, boolean got) {
        due(what, want ? 1 : 0, got ? 1 : 0);
    }

    static void due(String what, String want, String got) {
        compared++;
        if (!want.equals(got)) {
            wrong++;
            System.out.println(test + what + " answered " + got + ", due is " + want);
        }
    }

    static void due(String what, int[] want, int[] got) {
        due(what, Arrays.toString(want), Arrays.toString(got));
    }

    /** The answer of a call, or the class of what it throws. */
    static String outcome(LongSupplier call) {
        try {
            return Long.toString(call.getAsLong());
        } catch (RuntimeException e) {
            return e.getClass().getName();
        }
    }

    // Refused calls: each on a desk of its own, which answers afterwards as its twin does.

    static void range(Supplier<Desk> made, Call... calls) {
        refused(IllegalArgumentException.class, made, calls);
    }

    static void state(Supplier<Desk> made, Call... calls) {
        refused(IllegalStateException.class, made, calls);
    }

    static void none(Supplier<Desk> made, Call... calls) {
        refused(IndexOutOfBoundsException.class, made, calls);
    }

    static void missing(Supplier<Desk> made, Call... calls) {
        refused(NoSuchElementException.class, made, calls);
    }

    private static void refused(Class<? extends RuntimeException> want, Supplier<Desk> made,
            Call... calls) {
        for (int i = 0; i < calls.length; i++) {
            String what = "the refused call " + i;
            // What the machine throws is of a class below: this very one is due.
            due(what, want.getName(), thrown(made.get(), calls[i]));
            Twin.same(what, made, calls[i]);
        }
    }

    private static String thrown(Desk desk, Call call) {
        try {
            call.on(desk);
            return "nothing";
        } catch (RuntimeException e) {
            return e.getClass().getName();
        }
    }

    static void end() {
        System.out.println(compared + " compared, " + wrong + " wrong");
        if (wrong != 0) {
            System.exit(1);
        }
    }
}
