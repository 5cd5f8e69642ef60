import java.util.ArrayList;
import java.util.List;
import java.util.Set;

/**
 * Each call with every mixture of numbers at, next to and far beyond their bounds, from each of the states:
 * HillPaths answers as the model does, and no call throws.
 */
public final class ExtremesTest {
    private static final String FAR = "MIN NONE -1 0 1 MAX ";
    private static final String CAIRNS = FAR + "-12 9 10 11 12 89 90 98 99 100 101 112";
    private static final String STRETCH = FAR + "5 6 15 16", TRIP = FAR + "4 5 11 12", KIND = FAR + "2 3 4 5";
    private static final String OWNER = FAR + "3 4", YEAR = FAR + "3 4 5 199 200 201", WHAT = FAR + "2 3 4 5";
    private static final String PLACE = FAR + "2 3 4 5 23 24 25", ROW = "MIN -1 0 1 2 3 4 MAX", HUT = FAR + "2 3 4 5";

    private static final String[][] CALLS = {
        {"stretch", CAIRNS, FAR + "99 100", FAR + "2 3 9 10 90 92 93 99 100", OWNER},
        {"told", STRETCH, FAR + "2 3 4 5 6 7 8 9 10 11 12 13"},
        {"as", STRETCH, KIND},
        {"set", STRETCH, FAR + "4 5 6 7 8", FAR + "2 9998 9999 10000"},
        {"trip", CAIRNS, FAR + "9998 9999 10000"},
        {"boots", TRIP, FAR + "9998 9999 10000"},
        {"way", TRIP, FAR + "2 3 4 5 10 11 12"},
        {"without", STRETCH, STRETCH},
        {"rain", YEAR, FAR + "19 20 21"},
        {"run", FAR + "19 20 21"},
        {"lost", FAR + "19 20 21"},
        {"feed", FAR + "1818583414", FAR + "1696623421", FAR + "830237501"},
        {"trim", FAR + "8 9 10 95 96 97"},
        {"text", OWNER, YEAR},
        {"of", FAR + "4 5 13 14", WHAT},
        {"why", OWNER, FAR + "2 3 4"},
        {"rule", STRETCH, FAR + "2 3 4", KIND},
        {"closing"},
        {"washed", STRETCH},
        {"mend", STRETCH, KIND, YEAR},
        {"mendTold", FAR + "2 3 19 20", WHAT},
        {"worth", STRETCH, KIND, FAR + "29 30 31"},
        {"choose", STRETCH},
        {"choice", FAR + "29 30 31", FAR + "999 999998 999999 1000000", FAR + "2 5 6 7 8"},
        {"clear"},
        {"donor", YEAR, FAR + "99998 99999 100000"},
        {"load", FAR + "98 99 100"},
        {"flight", FAR + "-2 4 5 9 10"},
        {"person", FAR + "14 15 16", FAR + "62 63 64"},
        {"job", FAR + "3 4", FAR + "59 60 61"},
        {"beds", FAR + "9 10 11"},
        {"roster", FAR + "-3 -2 2 3 4 5 6"},
        {"counter", ROW, FAR + "-2 2", FAR + "23 24 25"},
        {"note", ROW, PLACE, FAR + "29999 30000 30001 32767 32768 65535"},
        {"span", ROW, PLACE, FAR + "2"},
        {"sum", ROW, FAR + "2"},
        {"copy", "-1 0 1 2 3 4", "MIN -1 0 1 4 5 23 24 MAX", "-1 0 1 2 3 4", "MIN -1 0 1 4 5 23 24 MAX", "MIN -1 0 1 4 5 24 25 MAX"},
        {"lay", HUT, FAR + "2 3 4", FAR + "2 3 4 5 6 15 16"},
        {"ask", HUT, KIND},
        {"gaps", HUT},
        {"parts", HUT, FAR + "-7 7"},
        {"tell", FAR},
        {"check", FAR + "2 3 19 20 21"},
        {"keep"},
        {"back"},
        {"count", FAR + "2 3 4 5 6 7 8 9 10 11 12 13 14 15"}};

    /** Calls that change something if they are taken. */
    private static final Set<String> CHANGING = Set.of("stretch", "set", "trip", "boots", "rain", "run", "feed", "trim", "text", "closing",
        "mend", "choose", "clear", "donor", "load", "person", "job", "beds", "counter", "note", "copy", "lay", "tell", "check", "keep", "back");

    private static int wrong = 0, asked = 0;
    private static HillPaths x;
    private static Model m;
    private static int left;

    private static void begin(Script from) {
        x = from.hill();
        m = from.model();
        left = Script.MOST_CALLS - from.calls.size() - 15;
    }

    /** Whether the call was refused, and the tape and the numbers that wait stayed as they were. */
    private static boolean isRefused(String state, Script.Call c) {
        int numbers = m.count(12), bytes = m.count(13);
        int got = c.on(x), want = c.on(m);
        asked++;
        left--;
        if (got != want) {
            wrong++;
            System.out.println(state + ": " + c.line + " answered " + Script.word(got) + ", due is " + Script.word(want));
        }
        return Script.word(want).matches("[A-Z]+") && numbers == m.count(12) && bytes == m.count(13);
    }

    private static void compareCounts(String state, String behind) {
        for (int i = 0; i <= 14; i++) {
            if (x.count(i) == m.count(i)) continue;
            wrong++;
            System.out.println(state + ": behind " + behind + " count(" + i + ") is " + x.count(i) + ", due is " + m.count(i));
        }
    }

    private static void mix(String[] call, int at, String line, List<String> lines) {
        if (at == call.length) {
            lines.add(line);
            return;
        }
        for (String v : call[at].trim().split(" ")) mix(call, at + 1, line + " " + v, lines);
    }

    private static void tryAll(String state, Script from, String[] call) {
        List<String> lines = new ArrayList<>();
        mix(call, 1, call[0], lines);
        begin(from);
        for (String line : lines) {
            if (left <= 0) begin(from);
            if (isRefused(state, Script.call(line)) || !CHANGING.contains(call[0])) continue;
            compareCounts(state, line);
            begin(from);
        }
        compareCounts(state, "all that were refused of " + call[0]);
    }

    public static void main(String[] args) {
        String[] names = {"nothing", "busy", "full", "the last year"};
        for (int s = 0; s < names.length; s++) {
            for (String[] call : CALLS) tryAll(names[s], States.ALL[s], call);
        }
        System.out.println(asked + " answers, " + wrong + " not as due");
        if (wrong != 0) System.exit(1);
    }
}
