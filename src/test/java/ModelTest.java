import java.lang.reflect.Method;
import java.util.ArrayList;
import java.util.List;
import java.util.Random;

/** Long random runs, with fixed seeds: HillPaths answers as the model does. */
public final class ModelTest {
    /**
     * A call, how often it comes, and what its numbers usually are: a range, or S a stretch, T a trip, X a text,
     * M a mend, L a load (those that there are), C two cairns, G ground, Y a year from the open one on, K a kind.
     */
    private static final String[] CALLS = {
        "stretch 12 C 1..12 G 0..3", "told 10 S 0..12", "as 5 S K", "set 8 S 5..7 0..1", "trip 8 C 0..9999",
        "boots 3 T 0..9999", "way 12 T 0..6", "without 4 S S", "rain 5 Y 0..20", "run 3 1..3", "lost 2 1..4",
        "feed 1 -9..9 0..9 0..9", "trim 1 0..20", "text 1 0..3 0..9", "of 3 X 0..3", "why 4 0..3 0..3", "rule 10 S 0..3 K",
        "closing 2", "washed 5 0..16", "mend 10 S K Y", "mendTold 4 M 0..3", "worth 6 S K 1..30",
        "choose 6 S", "choice 5 1..30 0..3000 0..5", "clear 1", "donor 5 Y 1..9999", "load 4 1..99", "flight 3 L",
        "person 4 0..15 0..63", "job 2 0..3 1..20", "beds 1 0..10", "roster 3 -2..5", "counter 5 0..3 0..1 0..24",
        "counter 1 0..3 -1..-1 0..24", "note 12 0..3 0..14 0..30000", "span 6 0..3 0..14 0..1", "sum 4 0..3 0..1",
        "copy 6 0..3 0..9 0..3 0..9 0..9", "lay 8 0..4 0..3 S", "ask 5 0..4 K", "gaps 3 0..4", "parts 3 0..4 -3..3",
        "tell 1 0..99", "check 1 1..3", "keep 1", "back 1", "count 4 0..14"};
    private static final String FIRST = "stretch|trip|donor|person|job|load|choose|counter|note|run|mend|lay";
    private static final int[] ODD = {Integer.MIN_VALUE, Integer.MAX_VALUE, -1, 0, HillPaths.NONE, 100, 201, 9999, 10000};

    private static final class Run {
        final HillPaths x = new HillPaths();
        final Model m = new Model();
        final List<String> told = new ArrayList<>();
        int calls = 0;

        /** Whether both answer the same. */
        boolean ask(Method mine, Method its, Object... args) throws Exception {
            calls++;
            int got = (int) mine.invoke(x, args);
            int want = (int) its.invoke(m, args);
            told.add(mine.getName() + java.util.Arrays.toString(args) + " -> " + got);
            if (got == want) return true;
            int from = Math.max(0, told.size() - 400);
            System.out.println(String.join("\n", told.subList(from, told.size())) + "\ndue is " + want);
            return false;
        }
    }

    private static Method named(Class<?> c, String name) {
        for (Method m : c.getDeclaredMethods()) if (m.getName().equals(name) && m.getReturnType() == int.class) return m;
        return null;
    }

    private static int upTo(Random r, int many) {
        return many > 0 ? r.nextInt(many) : 0;
    }

    private static int usually(String what, Random r, HillPaths x, int cairns) {
        switch (what) {
            case "S": return upTo(r, x.count(0));
            case "T": return upTo(r, x.count(2));
            case "X": return upTo(r, x.count(3));
            case "M": return upTo(r, x.count(4));
            case "L": return upTo(r, x.count(8) + 1) - 1;
            case "Y": return x.count(14) + r.nextInt(6);
            case "K": return r.nextInt(5);
            case "G": return r.nextInt(10) * 10 + r.nextInt(3);
            case "C":
                int from = r.nextInt(cairns);
                return from * 10 + (from + 1 + r.nextInt(cairns - 1)) % cairns;
            default:
                String[] ends = what.split("[.][.]");
                int least = Integer.parseInt(ends[0]);
                return least + r.nextInt(Integer.parseInt(ends[1]) - least + 1);
        }
    }

    private static Object[] numbers(String[] words, Random r, int wild, Run run, int cairns) {
        Object[] args = new Object[words.length - 2];
        for (int i = 0; i < args.length; i++) {
            int v = usually(words[2 + i], r, run.x, cairns);
            if (r.nextInt(wild) == 0) v = ODD[r.nextInt(ODD.length)];
            if (r.nextInt(wild) == 0) v += r.nextBoolean() ? 9 : -9;
            args[i] = v;
        }
        usual(words[0], args, r);
        return args;
    }

    /** Bends some numbers to where more happens. */
    private static void usual(String name, Object[] args, Random r) {
        if (name.equals("set") && r.nextInt(10) > 0) {
            args[1] = r.nextBoolean() ? 5 : 7;
            if (args[1].equals(5)) args[2] = r.nextInt(4) == 0 ? 1 + r.nextInt(9999) : 1 + r.nextInt(120);
        }
        if (name.equals("note") && r.nextInt(3) == 0) args[2] = HillPaths.NONE;
        if (name.equals("lay") && args[1].equals(2)) args[2] = r.nextInt(5) - (r.nextInt(9) == 0 ? 1 : 0);
        if (name.equals("lay") && args[1].equals(3)) args[2] = r.nextInt();
        if (name.equals("copy") && r.nextBoolean()) args[2] = args[0];
    }

    private static String expression(Random r, String names, int depth) {
        StringBuilder s = new StringBuilder();
        int parts = 1 + r.nextInt(3);
        for (int i = 0; i < parts; i++) {
            if (i > 0) s.append("|&<=>+-*/+-*/".charAt(r.nextInt(13)));
            if (r.nextInt(6) == 0) s.append(' ');
            while (r.nextInt(5) == 0) s.append('!');
            if (depth > 0 && r.nextInt(3) == 0) s.append('(').append(expression(r, names, depth - 1)).append(')');
            else if (r.nextBoolean()) s.append(names.charAt(r.nextInt(3)));
            else s.append(r.nextInt(r.nextBoolean() ? 6 : 10000));
        }
        return s.toString();
    }

    private static String text(Random r) {
        int key = r.nextInt(4);
        String s = List.of("leave", "shut", "price", "wash").get(key) + " "
            + expression(r, List.of("kws", "wby", "klo", "hwd").get(key), 3);
        if (r.nextInt(12) == 0) s = s.replace("(", "((((((((").replace("!", "!!!!!!!");
        StringBuilder b = new StringBuilder(s);
        for (int i = r.nextInt(3) == 0 ? 1 + r.nextInt(2) : 0; i > 0; i--) {
            char c = "!()|&<=>+-*/ 0123kwsbylohdz;\u0000\u00ff".charAt(r.nextInt(30));
            int at = r.nextInt(b.length());
            switch (r.nextInt(3)) {
                case 0 -> b.setCharAt(at, c);
                case 1 -> b.insert(at, c);
                default -> b.deleteCharAt(at);
            }
        }
        return b.length() > 96 ? b.substring(0, 96) : b.toString();
    }

    private static boolean law(Run run, Random r) throws Exception {
        String s = text(r);
        Method feed = named(HillPaths.class, "feed"), itsFeed = named(Model.class, "feed");
        run.ask(named(HillPaths.class, "trim"), named(Model.class, "trim"), 0);
        boolean right = true;
        for (int i = 0; i < s.length(); i += 12) {
            int[] v = new int[3];
            for (int k = 0; k < 12; k++) v[k / 4] = v[k / 4] << 8 | (i + k < s.length() ? s.charAt(i + k) : 32);
            right &= run.ask(feed, itsFeed, v[0], v[1], v[2]);
        }
        right &= run.ask(named(HillPaths.class, "trim"), named(Model.class, "trim"), s.length());
        run.told.add("'" + s + "'");
        return right && run.ask(named(HillPaths.class, "text"), named(Model.class, "text"), r.nextInt(4), r.nextInt(12));
    }

    private static boolean years(Run run, Random r) throws Exception {
        int n = 1 + r.nextInt(4);
        List<Integer> told = run.m.yearsTold(n);
        if (!told.isEmpty() && r.nextInt(3) == 0) told.set(r.nextInt(told.size()), 5);
        if (!told.isEmpty() && r.nextInt(5) == 0) told.remove(told.size() - 1);
        if (r.nextInt(5) == 0) told.add(7);
        Method tell = named(HillPaths.class, "tell"), itsTell = named(Model.class, "tell");
        for (int v : told) if (!run.ask(tell, itsTell, v)) return false;
        return run.ask(named(HillPaths.class, "check"), named(Model.class, "check"), n);
    }

    private static boolean go(long seed) throws Exception {
        Random r = new Random(seed);
        Run run = new Run();
        int wild = 10 + r.nextInt(90);
        int cairns = 3 + r.nextInt(8);
        List<String[]> pool = new ArrayList<>();
        for (String c : CALLS) {
            String[] words = c.split(" ");
            int often = Integer.parseInt(words[1]) * (r.nextInt(3) == 0 ? 3 : 1);
            for (int i = 0; i < often; i++) pool.add(words);
        }
        while (run.calls < 480) {
            int kind = r.nextInt(40);
            if (kind == 0) {
                if (!law(run, r)) return false;
            } else if (kind == 1 && r.nextBoolean()) {
                if (!years(run, r)) return false;
            } else {
                String[] words = pool.get(r.nextInt(pool.size()));
                if (run.calls < 90 && !words[0].matches(FIRST)) continue;
                Object[] args = numbers(words, r, wild, run, cairns);
                if (!run.ask(named(HillPaths.class, words[0]), named(Model.class, words[0]), args)) return false;
            }
        }
        return true;
    }

    public static void main(String[] args) throws Exception {
        int first = args.length > 0 ? Integer.parseInt(args[0]) : 1;
        int many = args.length > 1 ? Integer.parseInt(args[1]) : 2000;
        int wrong = 0;
        for (int seed = first; seed < first + many && wrong < 3; seed++) {
            if (go(seed)) continue;
            wrong++;
            System.out.println("seed " + seed + " is not as due\n");
        }
        System.out.println(wrong == 0 ? many + " runs are as due" : wrong + " runs are not as due");
        if (wrong != 0) System.exit(1);
    }
}
