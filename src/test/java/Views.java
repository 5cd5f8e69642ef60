import java.util.ArrayList;
import java.util.HashMap;
import java.util.List;
import java.util.Map;

/**
 * All that can be seen of an object, in several runs of calls that are each asked of an object made anew:
 * two objects that answer all of them alike are alike.
 */
final class Views {
    private static final List<Script> ALL = new ArrayList<>();
    private static final Map<Script, int[][]> SEEN = new HashMap<>();

    static {
        Script stretches = new Script(), ways = new Script(), rules = new Script(), rains = new Script(), lists = new Script();
        for (int i = 0; i <= 14; i++) stretches = stretches.plus("count " + i);
        stretches = stretches.plus(each("told", 17, 13));
        ways = ways.plus(each("way", 13, 12)).plus(each("of", 14, 4)).plus(each("why", 4, 4));
        for (int i = 0; i < 16; i++) {
            for (int k = 0; k < 5; k++) rules = rules.plus("rule " + i + " 0 " + k, "rule " + i + " 2 " + k);
            rules = rules.plus("rule " + i + " 1 0", "rule " + i + " 3 0");
        }
        rules = rules.plus(each("mendTold", 20, 4));
        for (int y = 0; y <= 200; y++) rains = rains.plus("rain " + y + " 0");
        rains = rains.plus("beds 0");
        for (int i = -2; i <= 10; i++) lists = lists.plus("flight " + i, "roster " + i, "washed " + i);
        for (int i = 0; i <= 8; i++) lists = lists.plus("choice 7 999999 " + i, "choice 3 500 " + i);
        for (int i = 0; i < 12; i++) lists = lists.plus("boots " + i + " 77");
        for (int i = 0; i < 20; i++) lists = lists.plus("run 1", "count 11", "told " + i % 16 + " 5", "told " + i % 16 + " 8");
        lists = lists.plus("9 * run 20", "count 11", "count 5", "clear", "closing");
        Script[] kept = {stretches, ways, rules, rains, lists};
        ALL.addAll(List.of(kept));
        for (Script s : kept) {
            Script behind = new Script("back");
            behind.calls.addAll(s.calls);
            ALL.add(behind);
        }
        ALL.add(counters());
        ALL.add(huts());
        for (int n : new int[] {1, 2, 3, 20}) ALL.add(new Script("count 12", "check " + n, "count 12"));
        ALL.add(new Script("count 13", "text 0 0", "count 13").plus(each("of", 14, 4)).plus("rule 0 2 1", "rule 1 3 0"));
    }

    private Views() { }

    private static String[] each(String name, int first, int second) {
        List<String> lines = new ArrayList<>();
        for (int i = 0; i < first; i++) for (int k = 0; k < second; k++) lines.add(name + " " + i + " " + k);
        return lines.toArray(new String[0]);
    }

    private static Script counters() {
        Script s = new Script();
        for (int c = 0; c < 4; c++) {
            for (int p = 0; p <= 24; p++) s = s.plus("span " + c + " " + p + " 0", "span " + c + " " + p + " 1");
            s = s.plus("sum " + c + " 0", "sum " + c + " 1", "lay 4 2 " + c, "gaps 4");
            for (int to = 0; to < 4; to++) s = s.plus("copy " + c + " 0 " + to + " 0 0");
        }
        return s;
    }

    private static Script huts() {
        Script s = new Script(each("ask", 5, 5));
        for (int h = 0; h < 5; h++) s = s.plus("gaps " + h, "parts " + h + " 1", "parts " + h + " 0", "lay " + h + " 0 0");
        return s;
    }

    /** What is seen behind a run of calls. */
    static int[][] behind(Script s) {
        int[][] seen = new int[ALL.size()][];
        for (int i = 0; i < seen.length; i++) {
            List<Script.Call> calls = ALL.get(i).calls;
            if (s.calls.size() + calls.size() > Script.MOST_CALLS) throw new IllegalStateException("too many calls for one object");
            HillPaths x = s.hill();
            seen[i] = new int[calls.size()];
            for (int k = 0; k < seen[i].length; k++) seen[i][k] = calls.get(k).on(x);
        }
        return seen;
    }

    /** The first call that is answered otherwise behind the one run than behind the other, or null. */
    static String difference(Script one, Script other) {
        int[][] a = behind(one);
        int[][] b = SEEN.computeIfAbsent(other, Views::behind);
        for (int i = 0; i < a.length; i++) {
            for (int k = 0; k < a[i].length; k++) {
                if (a[i][k] == b[i][k]) continue;
                return ALL.get(i).calls.get(k).line + " (of view " + i + ") answers " + Script.word(a[i][k])
                    + " instead of " + Script.word(b[i][k]);
            }
        }
        return null;
    }
}
