import java.lang.reflect.InvocationTargetException;
import java.lang.reflect.Method;
import java.util.TreeMap;

/**
 * What the tests of boundary cases share. Each test is a static method named by its promise ("p02_lengthIs1To99"):
 * go does them all, and sees to it that no promise is without one.
 */
final class Bounds {
    private static String test = "";
    private static int wrong = 0, asked = 0;

    private Bounds() { }

    static void go(Class<?> tests, int firstPromise, int lastPromise) {
        TreeMap<String, Method> found = new TreeMap<>();
        for (Method m : tests.getDeclaredMethods()) if (m.getName().matches("p[0-9][0-9]_.+")) found.put(m.getName(), m);
        for (int p = firstPromise; p <= lastPromise; p++) {
            test = String.format("p%02d_", p);
            String at = found.ceilingKey(test);
            must(at != null && at.startsWith(test), "there is a test of promise " + p);
        }
        for (Method m : found.values()) {
            test = m.getName();
            try {
                m.invoke(null);
            } catch (InvocationTargetException e) {
                must(false, "ends without " + e.getCause());
            } catch (ReflectiveOperationException e) {
                must(false, "can be called: " + e);
            }
        }
        System.out.println(found.size() + " tests, " + asked + " answers, " + wrong + " not as due");
        if (wrong != 0) System.exit(1);
    }

    static void must(boolean holds, String what) {
        if (holds) return;
        wrong++;
        System.out.println(test + ": not so: " + what);
    }

    static void due(String call, int got, int want) {
        asked++;
        if (got == want) return;
        wrong++;
        System.out.println(test + ": " + call + " answered " + Script.word(got) + ", due is " + Script.word(want));
    }

    /** A run on a new object: the answers that its lines name are due. */
    static HillPaths run(String... lines) {
        return runFrom(States.FRESH, lines);
    }

    static HillPaths runFrom(Script from, String... lines) {
        Script s = new Script(lines);
        HillPaths x = from.hill();
        must(from.calls.size() + s.calls.size() <= Script.MOST_CALLS, "no more calls than an object is used for");
        for (Script.Call c : s.calls) {
            int got = c.on(x);
            if (c.want != null) due(c.line, got, c.want);
        }
        return x;
    }

    /** Each of these calls is answered so, and all is behind it as if it had not been made. */
    static void refused(Script from, int want, String... calls) {
        for (String c : calls) leaves(from, from, c, want);
    }

    /** The same on a new object, in the midst of work, where all is full, and in the last year. */
    static void refusedAnywhere(int want, String... calls) {
        for (Script from : States.ALL) refused(from, want, calls);
    }

    /** The call is answered so, and behind it all is as behind another run. */
    static void leaves(Script like, Script from, String call, int want) {
        due(call, Script.call(call).on(from.hill()), want);
        String seen = Views.difference(from.plus(call), like);
        must(seen == null, "behind " + call + " " + seen);
    }
}
