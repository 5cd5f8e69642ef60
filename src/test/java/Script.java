import java.lang.reflect.InvocationTargetException;
import java.lang.reflect.Method;
import java.util.ArrayList;
import java.util.HashMap;
import java.util.List;
import java.util.Map;

/**
 * A run of calls told in lines, which can be done on a HillPaths or on a Model.
 *
 * "stretch 1 5 0 0" is a call, "stretch 1 5 0 0 = 0" one whose answer is due; "3 * load 7" is the call three times;
 * "law 'leave k' 0 0" puts what stands between the quotes on the tape and asks for text(0, 0), "tape 'leave k'" only
 * puts it there. BAD, NONE and so on, MIN and MAX stand for their numbers.
 */
final class Script {
    /** An object is used for at most so many calls. */
    static final int MOST_CALLS = 512;

    private static final Map<String, Method> FOUND = new HashMap<>();

    /** One call: its answer is due if it has a want. */
    static final class Call {
        final String line, name;
        final Object[] args;
        final Integer want;

        Call(String line, String name, Object[] args, Integer want) {
            this.line = line;
            this.name = name;
            this.args = args;
            this.want = want;
        }

        int on(Object target) {
            try {
                return (int) method(target.getClass()).invoke(target, args);
            } catch (InvocationTargetException e) {
                throw new IllegalStateException(line + " threw " + e.getCause(), e.getCause());
            } catch (ReflectiveOperationException e) {
                throw new IllegalStateException(line, e);
            }
        }

        private Method method(Class<?> c) {
            return FOUND.computeIfAbsent(c.getName() + " " + name + " " + args.length, k -> {
                for (Method m : c.getDeclaredMethods()) {
                    if (m.getName().equals(name) && m.getParameterCount() == args.length) return m;
                }
                throw new IllegalStateException("no such call: " + line);
            });
        }
    }

    final List<Call> calls = new ArrayList<>();

    Script(String... lines) {
        for (String line : lines) add(line);
    }

    /** This run and some more lines. */
    Script plus(String... lines) {
        Script s = new Script(lines);
        s.calls.addAll(0, calls);
        return s;
    }

    /** This run without the calls of a name. */
    Script minus(String name) {
        Script s = new Script();
        for (Call c : calls) if (!c.name.equals(name)) s.calls.add(c);
        return s;
    }

    /** This run, and what a check of the image that is kept by then takes for n years. */
    Script tellingYears(int n) {
        Model m = new Model();
        for (Call c : calls) c.on(m);
        Script s = plus();
        for (int v : m.yearsTold(n)) s.add("tell " + v);
        return s;
    }

    HillPaths hill() {
        HillPaths x = new HillPaths();
        for (Call c : calls) c.on(x);
        return x;
    }

    Model model() {
        Model m = new Model();
        for (Call c : calls) c.on(m);
        return m;
    }

    static Call call(String line) {
        List<Call> one = new Script(line).calls;
        if (one.size() != 1) throw new IllegalArgumentException("not one call: " + line);
        return one.get(0);
    }

    private void add(String line) {
        int open = line.indexOf('\''), close = line.lastIndexOf('\'');
        String words = line;
        if (open >= 0) {
            writeTape(line.substring(open + 1, close));
            if (line.startsWith("tape")) return;
            words = "text" + line.substring(close + 1);
        }
        String[] sides = words.split(" = ");
        String[] parts = sides[0].trim().split(" +");
        int times = 1, first = 0;
        if (parts.length > 1 && parts[1].equals("*")) {
            times = Integer.parseInt(parts[0]);
            first = 2;
        }
        Object[] args = new Object[parts.length - first - 1];
        for (int i = 0; i < args.length; i++) args[i] = number(parts[first + 1 + i]);
        Integer want = sides.length > 1 ? (Integer) number(sides[1].trim()) : null;
        for (int i = 0; i < times; i++) calls.add(new Call(line, parts[first], args, want));
    }

    /** The tape must be empty ahead of it. */
    private void writeTape(String s) {
        for (int i = 0; i < s.length(); i += 12) {
            Object[] fours = {four(s, i), four(s, i + 4), four(s, i + 8)};
            calls.add(new Call("feed '" + s + "'", "feed", fours, null));
        }
        if (s.length() % 12 != 0) calls.add(new Call("trim '" + s + "'", "trim", new Object[] {s.length()}, s.length()));
    }

    private static int four(String s, int at) {
        int v = 0;
        for (int i = at; i < at + 4; i++) v = v << 8 | (i < s.length() ? s.charAt(i) & 255 : 32);
        return v;
    }

    static int number(String word) {
        switch (word) {
            case "BAD": return HillPaths.BAD;
            case "NO": return HillPaths.NO;
            case "FULL": return HillPaths.FULL;
            case "NONE": return HillPaths.NONE;
            case "NOTHING": return HillPaths.NOTHING;
            case "KIND": return HillPaths.KIND;
            case "INDEX": return HillPaths.INDEX;
            case "SIZE": return HillPaths.SIZE;
            case "MIN": return Integer.MIN_VALUE;
            case "MAX": return Integer.MAX_VALUE;
            default: return Integer.parseInt(word);
        }
    }

    /** The word for a number that has one. */
    static String word(int v) {
        for (String w : new String[] {"BAD", "NO", "FULL", "NONE", "NOTHING", "KIND", "INDEX", "SIZE", "MIN", "MAX"}) {
            if (number(w) == v) return w;
        }
        return String.valueOf(v);
    }
}
