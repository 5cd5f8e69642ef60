import java.util.ArrayList;
import java.util.Arrays;
import java.util.List;

/**
 * The document once more, in the plainest way: every way, choice, flight and roster is tried out,
 * kinds are classes under one another, texts are worked out from their words. It shares nothing with HillPaths.
 */
public final class Model {
    private static final int BAD = -1000000001, NO = -1000000002, FULL = -1000000003, NONE = -1000000005;
    private static final int NOTHING = -1000000011, KIND = -1000000012, INDEX = -1000000013, SIZE = -1000000014;

    // ---- kinds

    private static class Plain {
        int a, b, length, slope, soil, width = 10, owner;
        boolean shut;

        int number() { return 0; }
        int effort() { return length * (10 + slope) + width / 10; }
        int wear(int n, int r) { return n * (slope + 1) * new int[] {1, 2, 4}[soil] / 100 + r * slope / 10; }
        final int allWear(int n, int r) { return wear(n, r) + (width > 60 ? width / 30 : 0); }
        int holds() { return 20 - slope * 2 + (soil == 0 ? 5 : 0); }

        final Plain like(Plain o) {
            a = o.a; b = o.b; length = o.length; slope = o.slope; soil = o.soil; width = o.width; owner = o.owner; shut = o.shut;
            return this;
        }
        final Plain copy() { return of(number()).like(this); }
        final Plain mended(int kind) {
            Plain p = of(kind).like(this);
            if (p.width > 12) p.width = 12;
            return p;
        }
        static Plain of(int kind) {
            return switch (kind) { case 0 -> new Plain(); case 1 -> new Steps(); case 2 -> new Drained(); case 3 -> new Pitched(); default -> new Boards(); };
        }
        final boolean is(int kind) { return of(kind).getClass().isInstance(this); }
    }

    private static class Steps extends Plain {
        @Override int number() { return 1; }
        @Override int effort() { return super.effort() + 5 * slope; }
        @Override int wear(int n, int r) { return super.wear(n, r) / 4; }
        @Override int holds() { return super.holds() + 10; }
    }

    private static class Drained extends Plain {
        @Override int number() { return 2; }
        @Override int effort() { return super.effort() - length; }
        @Override int wear(int n, int r) { return Math.max(0, super.wear(n, r) - r); }
        @Override int holds() { return super.holds() - wear(100, 5); }
    }

    private static final class Pitched extends Steps {
        @Override int number() { return 3; }
        @Override int effort() { return super.effort() - length * 2; }
        @Override int wear(int n, int r) { return super.wear(n, r) / 2; }
    }

    private static final class Boards extends Drained {
        @Override int number() { return 4; }
        @Override int effort() { return super.effort() / 2; }
        @Override int wear(int n, int r) { return super.wear(n, r) / 3 + 1; }
        @Override int holds() { return super.holds() - length / 2; }
    }

    // ---- what an image keeps

    private record Law(int owner, int year, int key, List<String> words) { }

    private static final class State {
        List<Plain> stretches = new ArrayList<>();
        List<int[]> trips = new ArrayList<>(), mends = new ArrayList<>(), donors = new ArrayList<>();
        List<int[]> people = new ArrayList<>(), jobs = new ArrayList<>();
        List<Integer> chosen = new ArrayList<>(), loads = new ArrayList<>();
        List<Law> laws = new ArrayList<>();
        int[] rain = new int[300];
        int year, purse, beds = 10;

        State() { Arrays.fill(rain, 5); }

        static List<int[]> copyOf(List<int[]> rows) {
            List<int[]> l = new ArrayList<>();
            for (int[] r : rows) l.add(r.clone());
            return l;
        }

        State copy() {
            State s = new State();
            for (Plain p : stretches) s.stretches.add(p.copy());
            s.trips = copyOf(trips); s.mends = copyOf(mends); s.donors = copyOf(donors);
            s.people = copyOf(people); s.jobs = copyOf(jobs);
            s.chosen = new ArrayList<>(chosen); s.loads = new ArrayList<>(loads); s.laws = new ArrayList<>(laws);
            s.rain = rain.clone(); s.year = year; s.purse = purse; s.beds = beds;
            return s;
        }

        int widths() {
            int w = 0;
            for (Plain p : stretches) w += p.width;
            return w;
        }

        // ---- ways: all of them, each without a cairn twice

        List<Integer> best;
        int bestEffort;

        List<Integer> wayOf(int from, int to, int shutToo) {
            best = null;
            bestEffort = 0;
            boolean[] been = new boolean[10];
            been[from] = true;
            tryWays(from, to, shutToo, been, new ArrayList<>(), 0);
            return best;
        }

        private void tryWays(int at, int to, int shutToo, boolean[] been, List<Integer> way, int effort) {
            if (at == to) {
                if (best == null || isAhead(effort, way)) {
                    best = new ArrayList<>(way);
                    bestEffort = effort;
                }
                return;
            }
            for (int i = 0; i < stretches.size(); i++) {
                Plain p = stretches.get(i);
                if (p.shut || i == shutToo || (p.a != at && p.b != at)) continue;
                int next = p.a == at ? p.b : p.a;
                if (been[next]) continue;
                been[next] = true;
                way.add(i);
                tryWays(next, to, shutToo, been, way, effort + p.effort());
                way.remove(way.size() - 1);
                been[next] = false;
            }
        }

        private boolean isAhead(int effort, List<Integer> way) {
            if (effort != bestEffort) return effort < bestEffort;
            if (way.size() != best.size()) return way.size() < best.size();
            for (int i = 0; i < way.size(); i++) {
                if (!way.get(i).equals(best.get(i))) return way.get(i) < best.get(i);
            }
            return false;
        }

        int[] allBoots(int shutToo) {
            int[] boots = new int[16];
            for (int[] t : trips) {
                List<Integer> way = wayOf(t[0], t[1], shutToo);
                if (way != null) for (int i : way) boots[i] += t[2];
            }
            return boots;
        }

        void passYear() {
            int[] boots = allBoots(-1);
            for (int i = 0; i < stretches.size(); i++) {
                Plain p = stretches.get(i);
                p.width = Math.min(9999, p.width + p.allWear(boots[i], rain[year]));
            }
            for (int[] m : mends) {
                if (m[3] == 0 && m[2] == year) {
                    m[3] = 1;
                    stretches.set(m[0], stretches.get(m[0]).mended(m[1]));
                }
            }
            for (int[] d : donors) if (d[0] == year) purse = Math.min(999999999, purse + d[1]);
            year++;
        }
    }

    private State now = new State();
    private State image = null;
    private String tape = "";
    private final List<Integer> waiting = new ArrayList<>();
    private final int[][] rows = new int[4][];
    private final int[] sorts = new int[4];
    private final Object[] huts = new Object[5];

    private static boolean in(int v, int a, int b) { return v >= a && v <= b; }
    private boolean st(int i) { return in(i, 0, now.stretches.size() - 1); }

    // ---- paths

    public int stretch(int cairns, int length, int ground, int owner) {
        if (!in(cairns, 0, 99) || cairns / 10 == cairns % 10 || !in(length, 1, 99)) return BAD;
        if (!in(ground, 0, 92) || ground % 10 > 2 || !in(owner, 0, 3)) return BAD;
        if (now.stretches.size() == 16) return FULL;
        Plain p = new Plain();
        p.a = cairns / 10; p.b = cairns % 10; p.length = length; p.slope = ground / 10; p.soil = ground % 10; p.owner = owner;
        now.stretches.add(p);
        return now.stretches.size() - 1;
    }

    public int told(int stretch, int what) {
        if (!st(stretch) || !in(what, 0, 12)) return BAD;
        Plain p = now.stretches.get(stretch);
        int boots = now.allBoots(-1)[stretch];
        return new int[] {p.a, p.b, p.length, p.slope, p.soil, p.width, p.owner, p.shut ? 1 : 0, p.number(), p.effort(),
            boots, p.allWear(boots, now.rain[now.year]), p.holds()}[what];
    }

    public int as(int stretch, int kind) {
        if (!st(stretch) || !in(kind, 0, 4)) return BAD;
        Plain p = now.stretches.get(stretch);
        return p.is(kind) ? p.width : KIND;
    }

    public int set(int stretch, int what, int v) {
        if (!st(stretch)) return BAD;
        Plain p = now.stretches.get(stretch);
        if (what == 5) {
            if (!in(v, 1, 9999)) return BAD;
            int was = p.width;
            p.width = v;
            return was;
        }
        if (what != 7 || !in(v, 0, 1)) return BAD;
        int was = p.shut ? 1 : 0;
        p.shut = v == 1;
        return was;
    }

    public int trip(int cairns, int boots) {
        if (!in(cairns, 0, 99) || cairns / 10 == cairns % 10 || !in(boots, 0, 9999)) return BAD;
        if (now.trips.size() == 12) return FULL;
        now.trips.add(new int[] {cairns / 10, cairns % 10, boots});
        return now.trips.size() - 1;
    }

    public int boots(int trip, int n) {
        if (!in(trip, 0, now.trips.size() - 1) || !in(n, 0, 9999)) return BAD;
        int was = now.trips.get(trip)[2];
        now.trips.get(trip)[2] = n;
        return was;
    }

    public int way(int trip, int what) {
        if (!in(trip, 0, now.trips.size() - 1) || what < 0) return BAD;
        List<Integer> way = now.wayOf(now.trips.get(trip)[0], now.trips.get(trip)[1], -1);
        if (way == null) return NONE;
        if (what == 0) return now.bestEffort;
        if (what == 1) return way.size();
        return what - 2 < way.size() ? way.get(what - 2) : NONE;
    }

    public int without(int stretch, int shut) {
        return st(stretch) && st(shut) ? now.allBoots(shut)[stretch] : BAD;
    }

    public int rain(int year, int v) {
        if (!in(year, 0, 200) || !in(v, 0, 20)) return BAD;
        int was = now.rain[year];
        now.rain[year] = v;
        return was;
    }

    public int run(int n) {
        if (!in(n, 1, 20)) return BAD;
        if (now.year + n > 200) return FULL;
        for (int i = 0; i < n; i++) now.passYear();
        return now.year;
    }

    public int lost(int n) {
        if (!in(n, 1, 20)) return BAD;
        if (now.year + n > 200) return FULL;
        State s = now.copy();
        for (int i = 0; i < n; i++) s.passYear();
        return s.widths() - now.widths();
    }

    // ---- texts

    public int feed(int a, int b, int c) {
        if (tape.length() > 84) return FULL;
        StringBuilder s = new StringBuilder(tape);
        for (int v : new int[] {a, b, c}) {
            s.append((char) (v >>> 24)).append((char) (v >>> 16 & 255)).append((char) (v >>> 8 & 255)).append((char) (v & 255));
        }
        tape = s.toString();
        return tape.length();
    }

    public int trim(int n) {
        if (!in(n, 0, tape.length())) return BAD;
        tape = tape.substring(0, n);
        return n;
    }

    private static final List<String> KEYS = List.of("leave", "shut", "price", "wash");
    private static final String[] NAMES = {"kws", "wby", "klo", "hwd"};

    /** What is open around a place: whether its test was compared, how many ! wait for their part. */
    private static final class Frame {
        boolean compared;
        int nots;
    }

    private static boolean isLower(String s) { return s.matches("[a-z]+"); }
    private static boolean isDigits(String s) { return s.matches("[0-9]+"); }

    public int text(int owner, int year) {
        String s = tape;
        tape = "";
        if (!in(owner, 0, 3) || !in(year, 0, 200)) return BAD;
        List<String> words = new ArrayList<>();
        List<Integer> places = new ArrayList<>();
        java.util.regex.Matcher m = java.util.regex.Pattern.compile("[a-z]+|[0-9]+|[^ ]", java.util.regex.Pattern.DOTALL).matcher(s);
        while (m.find()) {
            words.add(m.group());
            places.add(m.start());
        }
        int fault = faultOf(words, places, s.length());
        if (fault >= 0) return -100 - fault;
        if (now.laws.size() == 14) return FULL;
        now.laws.add(new Law(owner, year, KEYS.indexOf(words.get(0)), words.subList(1, words.size())));
        return now.laws.size() - 1;
    }

    private static int faultOf(List<String> words, List<Integer> places, int end) {
        if (words.isEmpty()) return end;
        int key = KEYS.indexOf(words.get(0));
        if (key < 0) return places.get(0);
        List<Frame> frames = new ArrayList<>(List.of(new Frame()));
        boolean wantsPart = true;
        for (int i = 1; i < words.size(); i++) {
            String w = words.get(i), before = words.get(i - 1);
            boolean word = isLower(w) || isDigits(w);
            boolean glued = word && (isLower(before) || isDigits(before)) && places.get(i - 1) + before.length() == places.get(i);
            Frame f = frames.get(frames.size() - 1);
            boolean fits = !glued;
            if (!fits) return places.get(i);
            if (wantsPart) {
                int nots = 0;
                for (Frame g : frames) nots += g.nots;
                if (isDigits(w) && w.length() <= 4 || w.length() == 1 && NAMES[key].contains(w)) {
                    wantsPart = false;
                    f.nots = 0;
                } else if (w.equals("!") && nots < 8) {
                    f.nots++;
                } else if (w.equals("(") && frames.size() <= 8) {
                    frames.add(new Frame());
                } else {
                    return places.get(i);
                }
            } else if (w.equals(")") && frames.size() > 1) {
                frames.remove(frames.size() - 1);
                frames.get(frames.size() - 1).nots = 0;
            } else if (word || !"|&<=>+-*/".contains(w)) {
                return places.get(i);
            } else {
                if ("<=>".contains(w)) {
                    if (f.compared) return places.get(i);
                    f.compared = true;
                }
                if ("|&".contains(w)) f.compared = false;
                wantsPart = true;
            }
        }
        return wantsPart || frames.size() > 1 ? end : -1;
    }

    /** Splits the words at the last of the loosest signs outside brackets. */
    private static int workOut(List<String> words, String names, int[] values) {
        for (String signs : new String[] {"|", "&", "<=>", "+-", "*/"}) {
            int depth = 0;
            for (int i = words.size() - 1; i > 0; i--) {
                String w = words.get(i);
                if (w.equals(")")) depth++;
                if (w.equals("(")) depth--;
                if (depth != 0 || !signs.contains(w)) continue;
                int a = workOut(words.subList(0, i), names, values);
                int b = workOut(words.subList(i + 1, words.size()), names, values);
                return switch (w.charAt(0)) {
                    case '|' -> a != 0 | b != 0 ? 1 : 0;
                    case '&' -> a != 0 & b != 0 ? 1 : 0;
                    case '<' -> a < b ? 1 : 0;
                    case '=' -> a == b ? 1 : 0;
                    case '>' -> a > b ? 1 : 0;
                    case '+' -> a + b;
                    case '-' -> a - b;
                    case '*' -> a * b;
                    default -> b == 0 ? 0 : a / b;
                };
            }
        }
        String w = words.get(0);
        if (w.equals("!")) return workOut(words.subList(1, words.size()), names, values) == 0 ? 1 : 0;
        if (w.equals("(")) return workOut(words.subList(1, words.size() - 1), names, values);
        return isDigits(w) ? Integer.parseInt(w) : values[names.indexOf(w)];
    }

    public int of(int text, int what) {
        if (!in(text, 0, now.laws.size() - 1) || !in(what, 0, 3)) return BAD;
        Law l = now.laws.get(text);
        int operands = 0;
        for (String w : l.words) if (isLower(w) || isDigits(w)) operands++;
        return new int[] {l.key, l.owner, l.year, operands}[what];
    }

    public int why(int owner, int key) {
        if (!in(owner, 0, 3) || !in(key, 0, 3)) return BAD;
        for (int y = now.year; y >= 0; y--) {
            for (int i = now.laws.size() - 1; i >= 0; i--) {
                Law l = now.laws.get(i);
                if (l.owner == owner && l.key == key && l.year == y) return i;
            }
        }
        return NONE;
    }

    private int ruled(int stretch, int key, int kind) {
        return ruled(stretch, key, kind, key == 1 ? now.allBoots(-1) : new int[16]);
    }

    private int ruled(int stretch, int key, int kind, int[] boots) {
        Plain p = now.stretches.get(stretch);
        int law = why(p.owner, key);
        if (law == NONE) return new int[] {1, 0, 10 * p.length * (kind + 1), p.width - p.holds()}[key];
        int meet = 0;
        for (Plain q : now.stretches) if (q.a == p.a || q.b == p.a) meet++;
        int[][] values = {{kind, p.width, p.slope}, {p.width, boots[stretch], now.year},
            {kind, p.length, p.soil}, {p.holds(), p.width, meet}};
        int v = workOut(now.laws.get(law).words, NAMES[key], values[key]);
        return key != 2 ? v : v < 0 ? 0 : v > 99999 ? 99999 : v;
    }

    public int rule(int stretch, int key, int kind) {
        if (!st(stretch) || !in(key, 0, 3) || key % 2 == 0 && !in(kind, 0, 4)) return BAD;
        return ruled(stretch, key, kind);
    }

    public int closing() {
        int[] boots = now.allBoots(-1);
        int shut = 0;
        for (int i = 0; i < now.stretches.size(); i++) {
            now.stretches.get(i).shut = ruled(i, 1, 0, boots) != 0;
            if (now.stretches.get(i).shut) shut++;
        }
        return shut;
    }

    public int washed(int i) {
        if (i < 0) return BAD;
        List<Integer> order = new ArrayList<>();
        for (int s = 0; s < now.stretches.size(); s++) order.add(s);
        order.sort((p, q) -> Integer.compare(ruled(q, 3, 0), ruled(p, 3, 0)));
        return i < order.size() ? order.get(i) : NONE;
    }

    // ---- mends

    public int mend(int stretch, int kind, int year) {
        if (!st(stretch) || !in(kind, 1, 4) || !in(year, now.year, 200)) return BAD;
        if (now.mends.size() == 20) return FULL;
        if (ruled(stretch, 0, kind) == 0) return NO;
        for (int[] m : now.mends) if (m[0] == stretch && m[3] == 0) return NO;
        int price = ruled(stretch, 2, kind);
        if (price > now.purse) return NO;
        now.purse -= price;
        now.mends.add(new int[] {stretch, kind, year, 0});
        return now.mends.size() - 1;
    }

    public int mendTold(int mend, int what) {
        return in(mend, 0, now.mends.size() - 1) && in(what, 0, 3) ? now.mends.get(mend)[what] : BAD;
    }

    public int worth(int stretch, int kind, int n) {
        if (!st(stretch) || !in(kind, 1, 4) || !in(n, 1, 30)) return BAD;
        int boots = now.allBoots(-1)[stretch], rain = now.rain[now.year];
        Plain p = now.stretches.get(stretch).copy(), q = p.mended(kind);
        for (int i = 0; i < n; i++) {
            p.width = Math.min(9999, p.width + p.allWear(boots, rain));
            q.width = Math.min(9999, q.width + q.allWear(boots, rain));
        }
        return p.width - q.width;
    }

    public int choose(int stretch) {
        if (!st(stretch)) return BAD;
        if (now.chosen.contains(stretch)) return NO;
        if (now.chosen.size() == 6) return FULL;
        now.chosen.add(stretch);
        return now.chosen.size();
    }

    public int choice(int n, int c, int what) {
        int many = now.chosen.size();
        if (!in(n, 1, 30) || !in(c, 0, 999999) || !in(what, 0, 1 + many)) return BAD;
        int[][] worths = new int[many][5], prices = new int[many][5];
        for (int i = 0; i < many; i++) {
            for (int k = 1; k <= 4; k++) {
                int s = now.chosen.get(i);
                worths[i][k] = worth(s, k, n);
                prices[i][k] = ruled(s, 0, k) == 0 ? 1000000 : ruled(s, 2, k);
            }
        }
        int all = (int) Math.pow(5, many), bestWorth = 0, bestPrice = 0;
        int[] best = new int[many];
        for (int code = 0; code < all; code++) {
            int rest = code, w = 0, p = 0;
            int[] kinds = new int[many];
            for (int i = many - 1; i >= 0; i--) {
                kinds[i] = rest % 5;
                rest /= 5;
                w += worths[i][kinds[i]];
                p += prices[i][kinds[i]];
            }
            if (p <= c && (w > bestWorth || w == bestWorth && p < bestPrice)) {
                bestWorth = w;
                bestPrice = p;
                best = kinds;
            }
        }
        return what == 0 ? bestWorth : what == 1 ? bestPrice : best[what - 2];
    }

    public int clear() {
        int were = now.chosen.size();
        now.chosen.clear();
        return were;
    }

    public int donor(int year, int coins) {
        if (!in(year, now.year, 200) || !in(coins, 1, 99999)) return BAD;
        if (now.donors.size() == 12) return FULL;
        now.donors.add(new int[] {year, coins});
        return now.donors.size();
    }

    public int load(int weight) {
        if (!in(weight, 1, 99)) return BAD;
        if (now.loads.size() == 10) return FULL;
        now.loads.add(weight);
        return now.loads.size() - 1;
    }

    private int[] fewest;
    private int fewestCount;

    public int flight(int load) {
        if (!in(load, -1, now.loads.size() - 1)) return BAD;
        fewest = null;
        fewestCount = 99;
        fly(0, new int[now.loads.size()], new int[11], 0);
        return load == -1 ? fewestCount : fewest[load];
    }

    /** All ways to part the loads, in the order of the flights of each. */
    private void fly(int load, int[] flights, int[] weights, int used) {
        if (load == flights.length) {
            if (used < fewestCount) {
                fewestCount = used;
                fewest = flights.clone();
            }
            return;
        }
        for (int f = 0; f <= used; f++) {
            if (weights[f] + now.loads.get(load) > 100) continue;
            weights[f] += now.loads.get(load);
            flights[load] = f;
            fly(load + 1, flights, weights, Math.max(used, f + 1));
            weights[f] -= now.loads.get(load);
        }
    }

    // ---- people

    public int person(int skills, int weekends) {
        if (!in(skills, 0, 15) || !in(weekends, 0, 63)) return BAD;
        if (now.people.size() == 10) return FULL;
        now.people.add(new int[] {skills, weekends});
        return now.people.size() - 1;
    }

    public int job(int skill, int needs) {
        if (!in(skill, 0, 3) || !in(needs, 1, 60)) return BAD;
        if (now.jobs.size() == 4) return FULL;
        now.jobs.add(new int[] {skill, needs});
        return now.jobs.size() - 1;
    }

    public int beds(int n) {
        if (!in(n, 0, 10)) return BAD;
        int were = now.beds;
        now.beds = n;
        return were;
    }

    public int roster(int what) {
        if (!in(what, -2, 5)) return BAD;
        int choices = now.jobs.size() + 1, bestMet = -1, bestDays = -1;
        int[][] does = new int[6][choices];
        for (int w = 0; w < 6; w++) {
            for (int j = 1; j < choices; j++) {
                int able = 0;
                for (int[] p : now.people) if ((p[0] >> now.jobs.get(j - 1)[0] & p[1] >> w & 1) == 1) able++;
                does[w][j] = 2 * Math.min(now.beds, able);
            }
        }
        int[] best = null;
        for (int code = 0; code < Math.pow(choices, 6); code++) {
            int[] picks = new int[6], has = new int[choices];
            int rest = code, met = 0, days = 0;
            for (int w = 5; w >= 0; w--) {
                picks[w] = rest % choices;
                rest /= choices;
                has[picks[w]] += does[w][picks[w]];
            }
            for (int j = 1; j < choices; j++) {
                int needs = now.jobs.get(j - 1)[1];
                if (has[j] >= needs) met++;
                days += Math.min(has[j], needs);
            }
            if (met > bestMet || met == bestMet && days > bestDays) {
                bestMet = met;
                bestDays = days;
                best = picks;
            }
        }
        return what == -2 ? bestMet : what == -1 ? bestDays : best[what] == 0 ? NONE : best[what] - 1;
    }

    // ---- counters, huts

    public int counter(int counter, int sort, int n) {
        if (!in(counter, 0, 3) || !in(sort, -1, 1)) return BAD;
        if (sort == -1) {
            rows[counter] = null;
            return 0;
        }
        if (n > 24) return BAD;
        if (n < 0) return SIZE;
        rows[counter] = new int[n];
        sorts[counter] = sort;
        return n;
    }

    public int note(int counter, int place, int v) {
        if (!in(counter, 0, 3)) return BAD;
        if (rows[counter] == null) return NOTHING;
        if (!in(place, 0, rows[counter].length - 1)) return INDEX;
        if (!in(v, 0, 30000) && v != NONE) return BAD;
        rows[counter][place] = v;
        return 1;
    }

    /** The span of a place as a pair; null if there is none. */
    private static int[] spanOf(int[] row, int place) {
        if (row[place] != NONE) return new int[] {row[place], row[place]};
        List<Integer> near = new ArrayList<>();
        for (int i = place - 1; i >= 0 && near.isEmpty(); i--) if (row[i] != NONE) near.add(row[i]);
        int left = near.size();
        for (int i = place + 1; i < row.length && near.size() == left; i++) if (row[i] != NONE) near.add(row[i]);
        if (near.isEmpty()) return null;
        near.sort(null);
        return new int[] {near.get(0), near.get(near.size() - 1)};
    }

    public int span(int counter, int place, int what) {
        if (!in(counter, 0, 3) || !in(what, 0, 1)) return BAD;
        if (rows[counter] == null) return NOTHING;
        if (!in(place, 0, rows[counter].length - 1)) return INDEX;
        int[] s = spanOf(rows[counter], place);
        return s == null ? KIND : s[what];
    }

    public int sum(int counter, int what) {
        if (!in(counter, 0, 3) || !in(what, 0, 1)) return BAD;
        if (rows[counter] == null) return NOTHING;
        int all = 0;
        for (int i = 0; i < rows[counter].length; i++) {
            int[] s = spanOf(rows[counter], i);
            if (s == null) return KIND;
            all += s[what];
        }
        return all;
    }

    public int copy(int from, int place, int to, int at, int many) {
        if (!in(from, 0, 3) || !in(to, 0, 3)) return BAD;
        if (rows[from] == null || rows[to] == null) return NOTHING;
        if (sorts[from] != sorts[to]) return KIND;
        try {
            System.arraycopy(rows[from], place, rows[to], at, many);
        } catch (IndexOutOfBoundsException e) {
            return INDEX;
        }
        return many;
    }

    public int lay(int hut, int thing, int k) {
        if (!in(hut, 0, 4) || !in(thing, 0, 3)) return BAD;
        if (thing == 1 && !st(k) || thing == 2 && !in(k, 0, 3)) return BAD;
        if (thing == 2 && rows[k] == null) return NOTHING;
        Object o = huts[hut];
        huts[hut] = thing == 0 ? null : thing == 1 ? now.stretches.get(k).copy() : thing == 2 ? rows[k].clone() : (Object) k;
        return o == null ? 0 : o instanceof Plain ? 1 : o instanceof Integer ? 3 : 2;
    }

    public int ask(int hut, int kind) {
        if (!in(hut, 0, 4) || !in(kind, 0, 4)) return BAD;
        if (huts[hut] == null) return NOTHING;
        return huts[hut] instanceof Plain p && p.is(kind) ? p.effort() : KIND;
    }

    public int gaps(int hut) {
        if (!in(hut, 0, 4)) return BAD;
        if (huts[hut] == null) return NOTHING;
        if (!(huts[hut] instanceof int[] row)) return KIND;
        int gaps = 0;
        for (int v : row) if (v == NONE) gaps++;
        return gaps;
    }

    public int parts(int hut, int n) {
        if (!in(hut, 0, 4)) return BAD;
        if (huts[hut] == null) return NOTHING;
        if (!(huts[hut] instanceof Integer coins)) return KIND;
        return n == 0 ? NO : (int) ((long) coins / n);
    }

    // ---- rows, images

    public int tell(int v) {
        if (waiting.size() == 60) return FULL;
        waiting.add(v);
        return waiting.size();
    }

    public int check(int n) {
        List<Integer> told = new ArrayList<>(waiting);
        waiting.clear();
        if (!in(n, 1, 20)) return BAD;
        if (image == null) return NO;
        List<Integer> due = yearsTold(n);
        int like = 0;
        while (like < told.size() && like < due.size() && told.get(like).equals(due.get(like))) like++;
        return like == told.size() && like == due.size() ? 0 : 1 + like;
    }

    /** What a check would take; nothing if there is no image. */
    List<Integer> yearsTold(int n) {
        List<Integer> due = new ArrayList<>();
        if (image == null) return due;
        State s = image.copy();
        for (int i = 0; i < n; i++) {
            s.passYear();
            due.add(s.widths());
            due.add(s.purse);
        }
        return due;
    }

    public int keep() {
        image = now.copy();
        return now.year;
    }

    public int back() {
        if (image == null) return NO;
        now = image.copy();
        return now.year;
    }

    public int count(int what) {
        if (!in(what, 0, 14)) return BAD;
        int shut = 0, wait = 0;
        for (Plain p : now.stretches) if (p.shut) shut++;
        for (int[] m : now.mends) if (m[3] == 0) wait++;
        return new int[] {now.stretches.size(), shut, now.trips.size(), now.laws.size(), now.mends.size(), wait,
            now.chosen.size(), now.donors.size(), now.loads.size(), now.people.size(), now.jobs.size(), now.purse,
            waiting.size(), tape.length(), now.year}[what];
    }
}
