/** Each promise of the document, by its number: ordinary inputs, the edges that it names, wrong inputs. */
public final class PromisesTest {
    private static final int BAD = HillPaths.BAD, NO = HillPaths.NO, FULL = HillPaths.FULL, NONE = HillPaths.NONE;
    private static final int NOTHING = HillPaths.NOTHING, KIND = HillPaths.KIND, INDEX = HillPaths.INDEX;
    private static final int SIZE = HillPaths.SIZE;
    private static final int MIN = Integer.MIN_VALUE, MAX = Integer.MAX_VALUE;

    private static int promise = 0, wrong = 0, asked = 0;

    private static void due(String call, int got, int want) {
        asked++;
        if (got == want) return;
        wrong++;
        System.out.println("promise " + promise + ": " + call + " answered " + got + ", due is " + want);
    }

    public static void main(String[] args) {
        paths();
        texts();
        mends();
        people();
        countersAndHuts();
        rowsAndImages();
        System.out.println(asked + " answers, " + wrong + " not as due");
        if (wrong != 0) System.exit(1);
    }

    // ---- helpers

    /** Puts a text on the tape, byte by byte as its characters are. */
    static void write(HillPaths x, String s) {
        int before = x.count(13);
        int n = s.length();
        for (int i = 0; i < n; i += 12) x.feed(four(s, i), four(s, i + 4), four(s, i + 8));
        x.trim(before + n);
    }

    private static int four(String s, int at) {
        int v = 0;
        for (int i = at; i < at + 4; i++) v = v << 8 | (i < s.length() ? s.charAt(i) & 255 : 32);
        return v;
    }

    private static int law(HillPaths x, String s, int owner, int year) {
        write(x, s);
        return x.text(owner, year);
    }

    /** A stretch 1-2 of length 7 and slope 4 on gravel, of a kind, trodden by 250, wide 57, in year 2 of rain 12. */
    private static HillPaths ofKind(int kind) {
        return ofKind(kind, 41);
    }

    private static HillPaths ofKind(int kind, int ground) {
        HillPaths x = new HillPaths();
        x.stretch(12, 7, ground, 0);
        x.trip(12, 250);
        x.donor(0, 99999);
        x.run(1);
        if (kind > 0) x.mend(0, kind, 1);
        x.run(1);
        x.set(0, 5, 57);
        x.rain(2, 12);
        return x;
    }

    /** Stretches in a row, 0-1, 1-2 .. , level, on rock, each of length 10. */
    private static HillPaths row(int stretches) {
        HillPaths x = new HillPaths();
        for (int i = 0; i < stretches; i++) x.stretch(i * 10 + i + 1, 10, 0, 0);
        return x;
    }

    // ---- paths

    private static void paths() {
        p1();
        p2();
        p3();
        p4();
        p5();
        p6();
        p7();
        p8();
        p9();
        p10();
        p11();
        p12();
    }

    private static void p1() {
        promise = 1;
        HillPaths x = new HillPaths();
        for (int i = 0; i <= 14; i++) due("count(" + i + ")", x.count(i), 0);
        due("beds(10)", x.beds(10), 10);
        for (int y = 0; y <= 200; y++) due("rain(" + y + ", 5)", x.rain(y, 5), 5);
        due("told(0, 0)", x.told(0, 0), BAD);
        due("roster(0)", x.roster(0), NONE);
        due("flight(-1)", x.flight(-1), 0);
        for (int i = 0; i < 4; i++) due("sum(" + i + ", 0)", x.sum(i, 0), NOTHING);
        for (int i = 0; i < 5; i++) due("ask(" + i + ", 0)", x.ask(i, 0), NOTHING);
        due("back()", x.back(), NO);
        due("check(1)", x.check(1), NO);
        due("closing()", x.closing(), 0);
        due("washed(0)", x.washed(0), NONE);
        due("why(0, 0)", x.why(0, 0), NONE);
        due("choice(1, 0, 0)", x.choice(1, 0, 0), 0);
        due("lost(1)", x.lost(1), 0);
    }

    private static void p2() {
        promise = 2;
        HillPaths x = new HillPaths();
        int[][] bad = {{-1, 1, 0, 0}, {100, 1, 0, 0}, {0, 1, 0, 0}, {11, 1, 0, 0}, {99, 1, 0, 0}, {MIN, 1, 0, 0},
            {MAX, 1, 0, 0}, {1, 0, 0, 0}, {1, 100, 0, 0}, {1, MIN, 0, 0}, {1, 1, -1, 0}, {1, 1, 3, 0}, {1, 1, 99, 0},
            {1, 1, 93, 0}, {1, 1, 100, 0}, {1, 1, -10, 0}, {1, 1, MIN, 0}, {1, 1, 0, -1}, {1, 1, 0, 4}, {1, 1, 0, MAX}};
        for (int[] b : bad) due("stretch of bad numbers", x.stretch(b[0], b[1], b[2], b[3]), BAD);
        due("count(0)", x.count(0), 0);
        due("stretch(9, 1, 0, 0)", x.stretch(9, 1, 0, 0), 0);
        due("stretch(90, 99, 92, 3)", x.stretch(90, 99, 92, 3), 1);
        for (int i = 2; i < 16; i++) due("stretch " + i, x.stretch(12, 1, 0, 0), i);
        due("stretch when full", x.stretch(12, 1, 0, 0), FULL);
        due("bad stretch when full", x.stretch(11, 1, 0, 0), BAD);
        due("count(0)", x.count(0), 16);
        due("told(1, 0)", x.told(1, 0), 9);
        due("told(1, 3)", x.told(1, 3), 9);
    }

    private static void p3() {
        promise = 3;
        HillPaths x = new HillPaths();
        x.stretch(83, 21, 52, 2);
        int[] want = {8, 3, 21, 5, 2, 10, 2, 0, 0, 21 * 15 + 1, 0, 2, 10};
        for (int i = 0; i < want.length; i++) due("told(0, " + i + ")", x.told(0, i), want[i]);
        due("told(0, -1)", x.told(0, -1), BAD);
        due("told(0, 13)", x.told(0, 13), BAD);
        due("told(-1, 0)", x.told(-1, 0), BAD);
        due("told(1, 0)", x.told(1, 0), BAD);
        x.set(0, 7, 1);
        due("told(0, 7)", x.told(0, 7), 1);
        int[] efforts = {103, 123, 96, 109, 48};
        int[] wears = {29, 7, 17, 3, 6};
        int[] holds = {12, 22, 5, 22, 6};
        for (int kind = 0; kind < 5; kind++) {
            HillPaths y = ofKind(kind);
            due("kind " + kind + " told(0, 8)", y.told(0, 8), kind);
            due("kind " + kind + " told(0, 9)", y.told(0, 9), efforts[kind]);
            due("kind " + kind + " told(0, 10)", y.told(0, 10), 250);
            due("kind " + kind + " told(0, 11)", y.told(0, 11), wears[kind]);
            due("kind " + kind + " told(0, 12)", y.told(0, 12), holds[kind]);
            y.set(0, 5, 60);
            due("kind " + kind + " wide 60 told(0, 11)", y.told(0, 11), wears[kind]);
            y.set(0, 5, 61);
            due("kind " + kind + " wide 61 told(0, 11)", y.told(0, 11), wears[kind] + 2);
            due("kind " + kind + " wide 61 told(0, 12)", y.told(0, 12), holds[kind]);
            y.set(0, 5, 9999);
            due("kind " + kind + " wide 9999 told(0, 11)", y.told(0, 11), wears[kind] + 333);
        }
        // Rock: softness 1, and 5 more of holds; level, in much rain, a drained one has no wear.
        due("rock told(0, 12)", ofKind(0, 40).told(0, 12), 17);
        due("rock drained told(0, 12)", ofKind(2, 40).told(0, 12), 17 - (5 + 2 - 5));
        due("rock told(0, 11)", ofKind(0, 40).told(0, 11), 12 + 4);
        due("peat told(0, 11)", ofKind(0, 42).told(0, 11), 50 + 4);
        due("level drained rock told(0, 11)", ofKind(2, 0).told(0, 11), 0);
        due("level boards on rock told(0, 11)", ofKind(4, 0).told(0, 11), 1);
        for (int slope = 0; slope <= 9; slope++) {
            for (int soil = 0; soil <= 2; soil++) holdsOf(slope, soil);
        }
        HillPaths z = new HillPaths();
        z.stretch(12, 7, 0, 0);
        z.trip(12, 300);
        z.trip(21, 99);
        due("both ways told(0, 10)", z.told(0, 10), 399);
        due("told(0, 11)", z.told(0, 11), 3);
    }

    /** Of drained ones and boards, by their own wear of 100 boots in a year of rain 5. */
    private static void holdsOf(int slope, int soil) {
        int plain = 20 - 2 * slope + (soil == 0 ? 5 : 0);
        int drained = Math.max(0, (slope + 1) * (1 << soil) + slope / 2 - 5);
        int ground = slope * 10 + soil;
        due("drained on " + ground + " told(0, 12)", ofKind(2, ground).told(0, 12), plain - drained);
        due("boards on " + ground + " told(0, 12)", ofKind(4, ground).told(0, 12), plain - (drained / 3 + 1) - 3);
    }

    private static void p4() {
        promise = 4;
        boolean[][] fits = {{true, false, false, false, false}, {true, true, false, false, false},
            {true, false, true, false, false}, {true, true, false, true, false}, {true, false, true, false, true}};
        for (int kind = 0; kind < 5; kind++) {
            HillPaths x = ofKind(kind);
            for (int asks = 0; asks < 5; asks++) {
                due("kind " + kind + " as(0, " + asks + ")", x.as(0, asks), fits[kind][asks] ? 57 : KIND);
            }
            due("as(0, -1)", x.as(0, -1), BAD);
            due("as(0, 5)", x.as(0, 5), BAD);
            due("as(1, 0)", x.as(1, 0), BAD);
            due("as(-1, 0)", x.as(-1, 0), BAD);
        }
    }

    private static void p5() {
        promise = 5;
        HillPaths x = row(2);
        due("set(0, 5, 9999)", x.set(0, 5, 9999), 10);
        due("set(0, 5, 1)", x.set(0, 5, 1), 9999);
        due("told(0, 5)", x.told(0, 5), 1);
        due("told(1, 5)", x.told(1, 5), 10);
        due("set(1, 7, 1)", x.set(1, 7, 1), 0);
        due("set(1, 7, 1)", x.set(1, 7, 1), 1);
        due("set(1, 7, 0)", x.set(1, 7, 0), 1);
        due("told(1, 7)", x.told(1, 7), 0);
        int[][] bad = {{0, 5, 0}, {0, 5, 10000}, {0, 5, -1}, {0, 7, 2}, {0, 7, -1}, {0, 6, 1}, {0, 0, 1}, {0, 8, 1},
            {0, -1, 1}, {2, 5, 5}, {-1, 5, 5}, {0, MAX, 1}};
        for (int[] b : bad) due("bad set", x.set(b[0], b[1], b[2]), BAD);
        due("told(0, 5)", x.told(0, 5), 1);
        due("told(0, 7)", x.told(0, 7), 0);
    }

    private static void p6() {
        promise = 6;
        HillPaths x = row(1);
        int[][] bad = {{-1, 1}, {100, 1}, {0, 1}, {55, 1}, {1, -1}, {1, 10000}, {MIN, 1}, {1, MAX}};
        for (int[] b : bad) due("bad trip", x.trip(b[0], b[1]), BAD);
        due("trip(1, 0)", x.trip(1, 0), 0);
        due("trip(98, 9999)", x.trip(98, 9999), 1);
        for (int i = 2; i < 12; i++) due("trip " + i, x.trip(10, 1), i);
        due("trip when full", x.trip(10, 1), FULL);
        due("bad trip when full", x.trip(0, 1), BAD);
        due("count(2)", x.count(2), 12);
        due("told(0, 10)", x.told(0, 10), 10);
    }

    private static void p7() {
        promise = 7;
        HillPaths x = row(1);
        x.trip(1, 40);
        due("boots(0, 9999)", x.boots(0, 9999), 40);
        due("told(0, 10)", x.told(0, 10), 9999);
        due("boots(0, 10000)", x.boots(0, 10000), BAD);
        due("boots(0, -1)", x.boots(0, -1), BAD);
        due("boots(1, 1)", x.boots(1, 1), BAD);
        due("boots(-1, 1)", x.boots(-1, 1), BAD);
        due("boots(0, 0)", x.boots(0, 0), 9999);
        due("told(0, 10)", x.told(0, 10), 0);
    }

    private static void wayIs(HillPaths x, int trip, int effort, int... stretches) {
        due("way(" + trip + ", 0)", x.way(trip, 0), effort);
        due("way(" + trip + ", 1)", x.way(trip, 1), stretches.length);
        for (int i = 0; i < stretches.length; i++) {
            due("way(" + trip + ", " + (2 + i) + ")", x.way(trip, 2 + i), stretches[i]);
        }
        due("way behind its end", x.way(trip, 2 + stretches.length), NONE);
        due("way(" + trip + ", MAX)", x.way(trip, MAX), NONE);
    }

    private static void p8() {
        promise = 8;
        HillPaths x = new HillPaths();
        // 0 to 3 by 1 (3, 0), by 2 (1, 2): like effort, like number; by 4 (5, 6) the same; the long one direct (4).
        x.stretch(13, 4, 0, 0);
        x.stretch(2, 4, 0, 0);
        x.stretch(23, 4, 0, 0);
        x.stretch(1, 4, 0, 0);
        x.stretch(3, 9, 0, 0);
        for (int i = 0; i < 5; i++) x.set(i, 5, 9);
        x.trip(3, 100);
        x.trip(30, 10);
        x.trip(39, 1);
        wayIs(x, 0, 80, 1, 2);
        wayIs(x, 1, 80, 0, 3);
        due("way(2, 0)", x.way(2, 0), NONE);
        due("way(2, 1)", x.way(2, 1), NONE);
        due("way(2, 9)", x.way(2, 9), NONE);
        due("way(2, -1)", x.way(2, -1), BAD);
        due("way(3, 0)", x.way(3, 0), BAD);
        due("way(-1, 0)", x.way(-1, 0), BAD);
        due("way(0, -1)", x.way(0, -1), BAD);
        due("way(0, MIN)", x.way(0, MIN), BAD);
        // The direct one of like effort has fewer stretches, whatever its number.
        x.stretch(30, 8, 0, 0);
        x.set(5, 5, 9);
        wayIs(x, 0, 80, 5);
        x.stretch(30, 8, 0, 0);
        x.set(6, 5, 9);
        wayIs(x, 1, 80, 5);
        // Wider ones are more effort.
        x.set(5, 5, 10);
        wayIs(x, 0, 80, 6);
        x.set(6, 7, 1);
        wayIs(x, 0, 80, 1, 2);
        x.set(1, 7, 1);
        wayIs(x, 0, 80, 3, 0);
        x.set(3, 7, 1);
        wayIs(x, 0, 81, 5);
        x.set(5, 7, 1);
        wayIs(x, 0, 90, 4);
        x.set(4, 7, 1);
        due("all shut way(0, 0)", x.way(0, 0), NONE);
        HillPaths y = row(9);
        y.trip(90, 1);
        wayIs(y, 0, 909, 8, 7, 6, 5, 4, 3, 2, 1, 0);
        y.trip(9, 1);
        wayIs(y, 1, 909, 0, 1, 2, 3, 4, 5, 6, 7, 8);
    }

    private static void p9() {
        promise = 9;
        HillPaths x = new HillPaths();
        x.stretch(1, 5, 0, 0);
        x.stretch(1, 6, 0, 0);
        x.stretch(12, 6, 0, 0);
        x.trip(1, 700);
        x.trip(20, 30);
        due("without(0, 1)", x.without(0, 1), 730);
        due("without(1, 0)", x.without(1, 0), 730);
        due("without(0, 0)", x.without(0, 0), 0);
        due("without(0, 2)", x.without(0, 2), 700);
        due("without(2, 0)", x.without(2, 0), 30);
        due("told(0, 7)", x.told(0, 7), 0);
        x.set(1, 7, 1);
        due("without(1, 0)", x.without(1, 0), 0);
        due("without(1, 1)", x.without(1, 1), 0);
        due("without(3, 0)", x.without(3, 0), BAD);
        due("without(0, 3)", x.without(0, 3), BAD);
        due("without(-1, 0)", x.without(-1, 0), BAD);
        due("without(0, -1)", x.without(0, -1), BAD);
        due("without(0, NONE)", x.without(0, NONE), BAD);
    }

    private static void p10() {
        promise = 10;
        HillPaths x = new HillPaths();
        x.stretch(1, 5, 92, 0);
        due("rain(0, 20)", x.rain(0, 20), 5);
        due("rain(0, 0)", x.rain(0, 0), 20);
        due("told(0, 11)", x.told(0, 11), 0);
        due("rain(200, 7)", x.rain(200, 7), 5);
        due("rain(200, 8)", x.rain(200, 8), 7);
        due("rain(199, 8)", x.rain(199, 8), 5);
        int[][] bad = {{-1, 5}, {201, 5}, {0, -1}, {0, 21}, {MIN, 0}, {0, MAX}};
        for (int[] b : bad) due("bad rain", x.rain(b[0], b[1]), BAD);
        due("rain(0, 20)", x.rain(0, 20), 0);
        due("told(0, 11)", x.told(0, 11), 18);
        x.run(1);
        due("told(0, 5)", x.told(0, 5), 28);
        due("told(0, 11)", x.told(0, 11), 4);
    }

    private static void p11() {
        promise = 11;
        HillPaths x = new HillPaths();
        due("run(0)", x.run(0), BAD);
        due("run(21)", x.run(21), BAD);
        due("run(-1)", x.run(-1), BAD);
        due("run(MAX)", x.run(MAX), BAD);
        // Two ways of like effort: boots go where it is less effort as the year begins.
        x.stretch(1, 5, 0, 0);
        x.stretch(1, 5, 0, 0);
        x.trip(1, 1000);
        due("run(1)", x.run(1), 1);
        due("told(0, 5)", x.told(0, 5), 20);
        due("told(1, 5)", x.told(1, 5), 10);
        due("run(1)", x.run(1), 2);
        due("told(0, 5)", x.told(0, 5), 20);
        due("told(1, 5)", x.told(1, 5), 20);
        due("run(3)", x.run(3), 5);
        due("told(0, 5)", x.told(0, 5), 40);
        due("told(1, 5)", x.told(1, 5), 30);
        // Bare ground grows by itself, but never above 9999.
        x.boots(0, 0);
        x.set(0, 5, 60);
        x.set(1, 5, 9900);
        due("run(1)", x.run(1), 6);
        due("told(0, 5)", x.told(0, 5), 60);
        due("told(1, 5)", x.told(1, 5), 9999);
        x.set(0, 5, 90);
        due("run(2)", x.run(2), 8);
        due("told(0, 5)", x.told(0, 5), 96);
        yearWithMends();
        HillPaths z = new HillPaths();
        for (int i = 1; i <= 10; i++) due("run(20)", z.run(20), 20 * i);
        due("run(1) in 200", z.run(1), FULL);
        due("run(20) in 200", z.run(20), FULL);
        due("run(0) in 200", z.run(0), BAD);
        due("count(14)", z.count(14), 200);
    }

    private static void yearWithMends() {
        HillPaths x = row(2);
        x.trip(2, 9000);
        x.donor(0, 4000);
        x.donor(0, 5);
        x.donor(1, 7);
        x.run(1);
        due("told(0, 5)", x.told(0, 5), 100);
        due("count(11)", x.count(11), 4005);
        due("mend(0, 3, 1)", x.mend(0, 3, 1), 0);
        x.set(1, 5, 3);
        x.boots(0, 0);
        due("mend(1, 4, 2)", x.mend(1, 4, 2), 1);
        x.run(1);
        due("told(0, 5)", x.told(0, 5), 12);
        due("told(0, 8)", x.told(0, 8), 3);
        due("told(1, 8)", x.told(1, 8), 0);
        due("count(11)", x.count(11), 4005 - 400 - 500 + 7);
        x.run(1);
        due("told(1, 8)", x.told(1, 8), 4);
        // It was not above 12, so it stays as wide.
        due("told(1, 5)", x.told(1, 5), 3);
        due("mendTold(1, 3)", x.mendTold(1, 3), 1);
        // A mend takes what the same year wore, too.
        HillPaths y = row(1);
        y.trip(1, 500);
        y.donor(0, 1000);
        y.run(1);
        y.mend(0, 1, 1);
        y.run(1);
        due("told(0, 5)", y.told(0, 5), 12);
        y.run(1);
        due("told(0, 5)", y.told(0, 5), 13);
    }

    private static void p12() {
        promise = 12;
        HillPaths x = row(2);
        x.trip(2, 1000);
        due("lost(0)", x.lost(0), BAD);
        due("lost(21)", x.lost(21), BAD);
        due("lost(1)", x.lost(1), 20);
        due("lost(5)", x.lost(5), 100);
        // Widths 10 to 70 in 6 years (70 is bare by 2), 82, 94.
        due("lost(8)", x.lost(8), 2 * (94 - 10));
        due("told(0, 5)", x.told(0, 5), 10);
        due("count(14)", x.count(14), 0);
        x.donor(0, 9999);
        x.run(3);
        x.mend(0, 3, 4);
        // 40, 50, 60 and then 12 (worn by 1 a year); the other one 50, 60, 70.
        due("lost(3)", x.lost(3), 12 + 1 - 40 + 70 - 40);
        due("mendTold(0, 3)", x.mendTold(0, 3), 0);
        due("told(0, 8)", x.told(0, 8), 0);
        due("count(11)", x.count(11), 9999 - 400);
        for (int i = 0; i < 9; i++) x.run(20);
        due("run(16)", x.run(16), 199);
        due("lost(2)", x.lost(2), FULL);
        due("lost(0)", x.lost(0), BAD);
        due("lost(21)", x.lost(21), BAD);
        x.set(1, 5, 9990);
        x.set(0, 5, 12);
        due("lost(1)", x.lost(1), 9 + 1);
    }

    // ---- texts

    private static void texts() {
        p13();
        p14();
        p15();
        values();
        p16();
        p17();
        p18();
        p19();
        p20();
    }

    private static void p13() {
        promise = 13;
        HillPaths x = new HillPaths();
        for (int i = 1; i <= 8; i++) due("feed " + i, x.feed(i, MIN, -1), 12 * i);
        due("feed when full", x.feed(0, 0, 0), FULL);
        due("count(13)", x.count(13), 96);
        due("trim(85)", x.trim(85), 85);
        due("feed above 96", x.feed(0, 0, 0), FULL);
        due("trim(84)", x.trim(84), 84);
        due("feed to 96", x.feed(0, 0, 0), 96);
        HillPaths y = new HillPaths();
        // "wash w*2+h  ", the highest byte first
        y.feed(0x77617368, 0x20772a32, 0x2b682020);
        due("text(0, 0)", y.text(0, 0), 0);
        y.stretch(1, 5, 0, 0);
        due("rule(0, 3, 0)", y.rule(0, 3, 0), 45);
        y.feed(0x77617368, 0x20772a80, 0x20202020);
        due("text with byte 128", y.text(0, 0), -107);
    }

    private static void p14() {
        promise = 14;
        HillPaths x = new HillPaths();
        due("trim(0)", x.trim(0), 0);
        due("trim(1)", x.trim(1), BAD);
        due("trim(-1)", x.trim(-1), BAD);
        x.feed(0, 0, 0);
        due("trim(13)", x.trim(13), BAD);
        due("trim(12)", x.trim(12), 12);
        due("trim(5)", x.trim(5), 5);
        due("count(13)", x.count(13), 5);
        due("trim(6)", x.trim(6), BAD);
        due("trim(0)", x.trim(0), 0);
        due("count(13)", x.count(13), 0);
        // The first bytes are kept.
        write(x, "wash 12");
        due("trim(6)", x.trim(6), 6);
        x.text(0, 0);
        x.stretch(1, 5, 0, 0);
        due("rule(0, 3, 0)", x.rule(0, 3, 0), 1);
    }

    private static void fault(String s, int place) {
        HillPaths x = new HillPaths();
        due("text of '" + s + "'", law(x, s, 0, 0), -100 - place);
        due("count(3)", x.count(3), 0);
        due("count(13)", x.count(13), 0);
    }

    private static void good(String s) {
        HillPaths x = new HillPaths();
        due("text of '" + s + "'", law(x, s, 0, 0), 0);
        due("count(13)", x.count(13), 0);
    }

    private static void p15() {
        promise = 15;
        HillPaths x = new HillPaths();
        int[][] bad = {{-1, 0}, {4, 0}, {0, -1}, {0, 201}, {MIN, 0}, {0, MAX}};
        for (int[] b : bad) {
            due("bad text", law(x, "leave 1", b[0], b[1]), BAD);
            due("the tape is used up", x.count(13), 0);
            due("bad text with a fault", law(x, "leave", b[0], b[1]), BAD);
        }
        due("count(3)", x.count(3), 0);
        for (int i = 0; i < 14; i++) due("text " + i, law(x, "shut 1", i % 4, i == 0 ? 200 : i), i);
        due("text when full", law(x, "shut 1", 0, 0), FULL);
        due("the tape is used up", x.count(13), 0);
        due("fault when full", law(x, "shut", 0, 0), -104);
        due("bad when full", law(x, "shut 1", 4, 0), BAD);
        due("count(3)", x.count(3), 14);

        fault("", 0);
        fault("   ", 3);
        fault("leave", 5);
        fault("leave  ", 7);
        fault(" leav 1", 1);
        fault("leaves 1", 0);
        fault("Leave 1", 0);
        fault("1", 0);
        fault("(leave 1)", 0);
        fault("leave1", 5);
        fault("leavek", 0);
        fault("leave leave", 6);
        fault("leave kk", 6);
        fault("leave k k", 8);
        fault("leave k1", 7);
        fault("leave 1k", 7);
        fault("leave 1 1", 8);
        fault("leave 12345", 6);
        fault("leave k+12345", 8);
        fault("leave k 12345", 8);
        fault("leave 00001", 6);
        fault("leave b", 6);
        fault("leave k<1<2", 9);
        fault("leave k=1=2", 9);
        fault("leave k=1+2>1", 11);
        fault("leave (k", 8);
        fault("leave (k ", 9);
        fault("leave k)", 7);
        fault("leave ()", 7);
        fault("leave (k))", 9);
        fault("leave k+", 8);
        fault("leave +k", 6);
        fault("leave -1", 6);
        fault("leave k*+1", 8);
        fault("leave k!1", 7);
        fault("leave k(1)", 7);
        fault("leave (1)(2)", 9);
        fault("leave !", 7);
        fault("leave !&1", 7);
        fault("leave k||1", 8);
        fault("leave k|&1", 8);
        fault("leave k;", 7);
        fault("leave k\t", 7);
        fault("leave\tk", 5);
        fault("leave k\u0000", 7);
        fault("leave \u00e9", 6);
        fault("leave K", 6);
        fault("leave ((((((((( k", 14);
        fault("leave ((((((((", 14);
        fault("leave !!!!!!!!!k", 14);
        fault("leave !(!(!(!(!(!(!(!(!k))))))))", 22);
        fault("leave ((((((((k))))))))+(((((((((", 32);
        for (String w : new String[] {"shut s", "shut k", "shut h", "price w", "price s", "price b", "wash k", "wash l"}) {
            fault(w, w.length() - 1);
        }
        good("leave(k)");
        good("  leave  k  ");
        good("leave!k");
        good("leave ((((((((k))))))))");
        good("leave ((((((((k))))))))+((((((((1))))))))");
        good("leave !!!!!!!!k");
        good("leave !!!!!!!!k&!!!!!!!!k");
        good("leave (((((((!!!!!!!!(k))))))))");
        good("leave !(!(!(!(!(!(!(!(k))))))))");
        good("leave (k<1)<2");
        good("leave k<1&k<2|k<3");
        good("leave k+w-s*0001/9999");
        good("shut w+b+y");
        good("price k+l+o");
        good("wash h+w+d");
        // The longest tape: 96 bytes.
        StringBuilder s = new StringBuilder("leave 1");
        while (s.length() < 95) s.append("+1");
        good(s.toString());
        good(s + " ");
        fault(s + "+", 96);
    }

    private static void gives(String e, int want) {
        HillPaths x = new HillPaths();
        x.stretch(1, 8, 31, 2);
        x.stretch(20, 1, 0, 2);
        x.set(0, 5, 77);
        due("text of 'wash " + e + "'", law(x, "wash " + e, 2, 0), 0);
        due("rule of 'wash " + e + "'", x.rule(0, 3, 0), want);
    }

    private static void values() {
        promise = 15;
        gives("7", 7);
        gives("0012", 12);
        gives("w", 77);
        gives("h", 14);
        gives("d", 2);
        gives("1+2*3", 7);
        gives("(1+2)*3", 9);
        gives("10-3-2", 5);
        gives("100/7/2", 7);
        gives("100/7*2", 28);
        gives("7/0", 0);
        gives("(0-7)/2", -3);
        gives("!0", 1);
        gives("!5", 0);
        gives("!!5", 1);
        gives("!0+1", 2);
        gives("!(0+1)", 0);
        gives("2|0", 1);
        gives("0|0", 0);
        gives("2&4", 1);
        gives("2&0", 0);
        gives("0&0|3", 1);
        gives("3|0&0", 1);
        gives("1<2", 1);
        gives("2<2", 0);
        gives("2=2", 1);
        gives("3=2", 0);
        gives("3>2", 1);
        gives("2>2", 0);
        gives("1+1=2&3>1+1", 1);
        gives("0-1<0", 1);
        gives("5&0=0", 1);
        gives("(5&0)=0", 1);
        gives("5|0=1", 1);
        gives("(5|0)=5", 0);
        gives("9999*9999*99", 9999 * 9999 * 99);
        gives("9999*9999*9999*9999", 9999 * 9999 * 9999 * 9999);
        gives("0-2048*1024*1024", MIN);
        gives("(0-2048*1024*1024)/(0-1)", MIN);
        gives("2048*1024*1024-1", MAX);
    }

    private static void p16() {
        promise = 16;
        HillPaths x = new HillPaths();
        due("of(0, 0)", x.of(0, 0), BAD);
        law(x, "leave k", 3, 200);
        law(x, "shut 1+2+b", 2, 0);
        law(x, "price !(k)*k/12", 1, 9);
        law(x, "wash 1", 0, 1);
        int[][] want = {{0, 3, 200, 1}, {1, 2, 0, 3}, {2, 1, 9, 3}, {3, 0, 1, 1}};
        for (int t = 0; t < 4; t++) {
            for (int i = 0; i < 4; i++) due("of(" + t + ", " + i + ")", x.of(t, i), want[t][i]);
        }
        due("of(4, 0)", x.of(4, 0), BAD);
        due("of(-1, 0)", x.of(-1, 0), BAD);
        due("of(0, -1)", x.of(0, -1), BAD);
        due("of(0, 4)", x.of(0, 4), BAD);
    }

    private static void p17() {
        promise = 17;
        HillPaths x = new HillPaths();
        law(x, "shut 1", 1, 2);
        law(x, "shut 2", 1, 1);
        law(x, "shut 3", 1, 1);
        law(x, "price 3", 1, 0);
        law(x, "shut 4", 2, 0);
        law(x, "shut 5", 1, 5);
        due("why(1, 1) in 0", x.why(1, 1), NONE);
        due("why(1, 2) in 0", x.why(1, 2), 3);
        due("why(2, 1) in 0", x.why(2, 1), 4);
        due("why(1, 0) in 0", x.why(1, 0), NONE);
        x.run(1);
        due("why(1, 1) in 1", x.why(1, 1), 2);
        x.run(1);
        due("why(1, 1) in 2", x.why(1, 1), 0);
        x.run(2);
        due("why(1, 1) in 4", x.why(1, 1), 0);
        x.run(1);
        due("why(1, 1) in 5", x.why(1, 1), 5);
        int[][] bad = {{-1, 0}, {4, 0}, {0, -1}, {0, 4}};
        for (int[] b : bad) due("bad why", x.why(b[0], b[1]), BAD);
    }

    private static void p18() {
        promise = 18;
        HillPaths x = new HillPaths();
        x.stretch(1, 8, 31, 2);
        x.trip(1, 60);
        for (int kind = 0; kind <= 4; kind++) {
            due("rule(0, 0, " + kind + ")", x.rule(0, 0, kind), 1);
            due("rule(0, 2, " + kind + ")", x.rule(0, 2, kind), 80 * (kind + 1));
        }
        due("rule(0, 1, 77)", x.rule(0, 1, 77), 0);
        due("rule(0, 3, -5)", x.rule(0, 3, -5), 10 - 14);
        int[][] bad = {{-1, 0, 0}, {1, 0, 0}, {0, -1, 0}, {0, 4, 0}, {0, 0, -1}, {0, 0, 5}, {0, 2, -1}, {0, 2, 5}};
        for (int[] b : bad) due("bad rule", x.rule(b[0], b[1], b[2]), BAD);
        law(x, "leave k*1000+w*10+s", 2, 0);
        due("leave k*1000+w*10+s", x.rule(0, 0, 4), 4103);
        law(x, "price k*1000+l*10+o", 2, 0);
        due("price k*1000+l*10+o", x.rule(0, 2, 0), 81);
        due("price k*1000+l*10+o", x.rule(0, 2, 4), 4081);
        x.run(3);
        law(x, "shut w*1000+b*10+y", 2, 0);
        due("told(0, 5)", x.told(0, 5), 10 + 3 * 5);
        due("shut w*1000+b*10+y", x.rule(0, 1, MIN), 25 * 1000 + 600 + 3);
        law(x, "wash h*1000+w*10+d", 2, 3);
        due("wash h*1000+w*10+d", x.rule(0, 3, MAX), 14251);
        x.stretch(10, 1, 0, 0);
        x.stretch(2, 1, 0, 0);
        x.stretch(12, 1, 0, 0);
        x.set(2, 7, 1);
        due("wash h*1000+w*10+d", x.rule(0, 3, 0), 14253);
        // Another owner's stretch is not ruled by it.
        due("rule(1, 0, 1)", x.rule(1, 0, 1), 1);
        due("rule(1, 3, 0)", x.rule(1, 3, 0), 10 - 25);
        law(x, "price 0-5", 2, 0);
        due("price below 0", x.rule(0, 2, 1), 0);
        law(x, "price 9999*10+9", 2, 0);
        due("price 99999", x.rule(0, 2, 1), 99999);
        law(x, "price 9999*10+10", 2, 0);
        due("price above", x.rule(0, 2, 1), 99999);
        law(x, "price 9999*9999*99", 2, 0);
        due("price that wraps", x.rule(0, 2, 1), 9999 * 9999 * 99 < 0 ? 0 : 99999);
    }

    private static void p19() {
        promise = 19;
        HillPaths x = new HillPaths();
        x.stretch(1, 5, 0, 0);
        x.stretch(1, 6, 0, 0);
        x.stretch(12, 6, 0, 1);
        x.trip(2, 700);
        x.set(1, 7, 1);
        x.set(2, 7, 1);
        due("closing() without texts", x.closing(), 0);
        due("count(1)", x.count(1), 0);
        law(x, "shut b>500", 0, 0);
        // All by the boots ahead of all: the second way has none yet.
        due("closing()", x.closing(), 1);
        due("told(0, 7)", x.told(0, 7), 1);
        due("told(1, 7)", x.told(1, 7), 0);
        due("closing()", x.closing(), 1);
        due("told(0, 7)", x.told(0, 7), 0);
        due("told(1, 7)", x.told(1, 7), 1);
        law(x, "shut 0-3", 1, 1);
        due("closing()", x.closing(), 1);
        x.run(1);
        due("closing()", x.closing(), 2);
        due("told(2, 7)", x.told(2, 7), 1);
    }

    private static void p20() {
        promise = 20;
        HillPaths x = row(4);
        x.set(1, 5, 50);
        x.set(3, 5, 50);
        int[] want = {1, 3, 0, 2};
        for (int i = 0; i < 4; i++) due("washed(" + i + ")", x.washed(i), want[i]);
        due("washed(4)", x.washed(4), NONE);
        due("washed(MAX)", x.washed(MAX), NONE);
        due("washed(-1)", x.washed(-1), BAD);
        due("washed(MIN)", x.washed(MIN), BAD);
        law(x, "wash 0-w*9999*9999", 0, 0);
        int thin = -10 * 9999 * 9999, wide = -50 * 9999 * 9999;
        due("washed(0) of wrapped", x.washed(0), thin > wide ? 0 : 1);
        x.stretch(90, 1, 0, 1);
        law(x, "wash 9999*9999", 1, 0);
        due("washed(0)", x.washed(0), thin > 9999 * 9999 || wide > 9999 * 9999 ? (thin > wide ? 0 : 1) : 4);
    }

    // ---- mends

    private static void mends() {
        p21();
        p22();
        p23();
        p24();
        p25();
        p26();
        p27();
        p28();
        p29();
    }

    private static void p21() {
        promise = 21;
        HillPaths x = row(3);
        x.donor(0, 999);
        x.run(1);
        int[][] bad = {{-1, 1, 1}, {3, 1, 1}, {0, 0, 1}, {0, 5, 1}, {0, 1, 0}, {0, 1, 201}, {0, -1, 1}, {0, 1, MAX}};
        for (int[] b : bad) due("bad mend", x.mend(b[0], b[1], b[2]), BAD);
        due("mend(0, 4, 200)", x.mend(0, 4, 200), 0);
        due("count(11)", x.count(11), 499);
        due("one waits", x.mend(0, 1, 1), NO);
        due("too few coins", x.mend(1, 4, 1), NO);
        due("count(11)", x.count(11), 499);
        due("mend(1, 3, 1)", x.mend(1, 3, 1), 1);
        due("count(11)", x.count(11), 99);
        law(x, "leave !(k=2)", 0, 1);
        law(x, "price k*9", 0, 1);
        due("no leave", x.mend(2, 2, 1), NO);
        due("mend(2, 4, 1)", x.mend(2, 4, 1), 2);
        due("count(11)", x.count(11), 63);
        law(x, "price 63", 0, 1);
        x.stretch(98, 1, 0, 0);
        due("all coins", x.mend(3, 1, 2), 3);
        due("count(11)", x.count(11), 0);
        x.run(1);
        law(x, "price 0", 0, 1);
        due("for nothing", x.mend(1, 3, 2), 4);
        due("again, while it waits", x.mend(1, 3, 3), NO);
        for (int i = 5; i < 20; i++) {
            x.run(1);
            due("mend " + i, x.mend(1, 3, 1 + i - 3), i);
        }
        due("mend when full", x.mend(2, 3, 30), FULL);
        due("mend when full and one waits", x.mend(1, 3, 30), FULL);
        due("mend when full and no leave", x.mend(2, 2, 30), FULL);
        due("bad mend when full", x.mend(2, 3, 1), BAD);
        due("count(4)", x.count(4), 20);
    }

    private static void p22() {
        promise = 22;
        HillPaths x = row(2);
        x.donor(0, 9999);
        x.run(1);
        x.mend(1, 3, 2);
        due("mendTold(0, 0)", x.mendTold(0, 0), 1);
        due("mendTold(0, 1)", x.mendTold(0, 1), 3);
        due("mendTold(0, 2)", x.mendTold(0, 2), 2);
        due("mendTold(0, 3)", x.mendTold(0, 3), 0);
        x.run(1);
        due("mendTold(0, 3) ahead", x.mendTold(0, 3), 0);
        x.run(1);
        due("mendTold(0, 3)", x.mendTold(0, 3), 1);
        due("mendTold(0, 4)", x.mendTold(0, 4), BAD);
        due("mendTold(0, -1)", x.mendTold(0, -1), BAD);
        due("mendTold(1, 0)", x.mendTold(1, 0), BAD);
        due("mendTold(-1, 0)", x.mendTold(-1, 0), BAD);
    }

    private static void p23() {
        promise = 23;
        HillPaths x = row(1);
        x.trip(1, 1000);
        // 10 a year on a plain one, 2 on steps, 5 on drained, 1 on pitched, 2 on boards.
        int[] worths = {0, 8, 5, 9, 10 - (5 / 3 + 1)};
        for (int kind = 1; kind <= 4; kind++) {
            due("worth(0, " + kind + ", 1)", x.worth(0, kind, 1), worths[kind]);
            due("worth(0, " + kind + ", 4)", x.worth(0, kind, 4), 4 * worths[kind]);
        }
        x.set(0, 5, 60);
        due("worth(0, 3, 1)", x.worth(0, 3, 1), 70 - 13);
        due("worth(0, 3, 2)", x.worth(0, 3, 2), 82 - 14);
        due("told(0, 5)", x.told(0, 5), 60);
        x.set(0, 5, 9995);
        due("worth(0, 1, 30)", x.worth(0, 1, 30), 9999 - (12 + 30 * 2 + bare(12, 2, 30)));
        // Boards wear by 1 where nothing else does: worth below 0.
        x.boots(0, 0);
        x.set(0, 5, 9);
        due("worth(0, 4, 30)", x.worth(0, 4, 30), -30);
        due("worth(0, 2, 30)", x.worth(0, 2, 30), 0);
        // The rain of the open year counts for all.
        HillPaths y = new HillPaths();
        y.stretch(1, 5, 92, 0);
        y.rain(0, 20);
        due("worth(0, 2, 10)", y.worth(0, 2, 10), 10 * 18 + bare(10, 18, 10));
        int[][] bad = {{-1, 1, 1}, {1, 1, 1}, {0, 0, 1}, {0, 5, 1}, {0, 1, 0}, {0, 1, 31}};
        for (int[] b : bad) due("bad worth", x.worth(b[0], b[1], b[2]), BAD);
    }

    /** What being bare adds to a width in some years, by each of which it is worn so much. */
    private static int bare(int width, int wear, int years) {
        int w = width;
        for (int i = 0; i < years; i++) w += wear + (w > 60 ? w / 30 : 0);
        return w - width - wear * years;
    }

    private static void p24() {
        promise = 24;
        HillPaths x = row(8);
        due("choose(-1)", x.choose(-1), BAD);
        due("choose(8)", x.choose(8), BAD);
        for (int i = 0; i < 6; i++) due("choose " + i, x.choose(7 - i), i + 1);
        due("choose(7)", x.choose(7), NO);
        due("choose(0)", x.choose(0), FULL);
        due("choose(8)", x.choose(8), BAD);
        due("count(6)", x.count(6), 6);
        x.clear();
        due("choose(7)", x.choose(7), 1);
    }

    private static void p25() {
        promise = 25;
        HillPaths x = row(3);
        x.trip(3, 1000);
        int[][] bad = {{0, 0, 0}, {31, 0, 0}, {1, -1, 0}, {1, 1000000, 0}, {1, 0, -1}, {1, 0, 2}, {MIN, 0, 0}, {1, 0, MAX}};
        for (int[] b : bad) due("bad choice", x.choice(b[0], b[1], b[2]), BAD);
        due("none told", x.choice(1, 999999, 0), 0);
        due("none told", x.choice(30, 999999, 1), 0);
        x.choose(2);
        x.choose(0);
        // Worths of one year 8, 5, 9, 8; prices 200, 300, 400, 500.
        choiceIs(x, 199, 0, 0, 0, 0);
        choiceIs(x, 200, 8, 200, 0, 1);
        choiceIs(x, 399, 8, 200, 0, 1);
        choiceIs(x, 400, 16, 400, 1, 1);
        choiceIs(x, 600, 17, 600, 1, 3);
        choiceIs(x, 800, 18, 800, 3, 3);
        choiceIs(x, 999999, 18, 800, 3, 3);
        due("choice(1, 0, 4)", x.choice(1, 0, 4), BAD);
        law(x, "leave k=2|k=4", 0, 0);
        // 5 for 300, 8 for 500.
        choiceIs(x, 299, 0, 0, 0, 0);
        choiceIs(x, 600, 10, 600, 2, 2);
        choiceIs(x, 800, 13, 800, 2, 4);
        choiceIs(x, 1000, 16, 1000, 4, 4);
        law(x, "price (k=2)*5", 0, 0);
        choiceIs(x, 0, 16, 0, 4, 4);
        law(x, "leave 0", 0, 0);
        choiceIs(x, 999999, 0, 0, 0, 0);
        // Of like worth the least prices: here 4 is as good as 1, and costs less; then the first kind.
        law(x, "leave k=1|k=4", 0, 0);
        law(x, "price 10-k", 0, 0);
        choiceIs(x, 100, 16, 12, 4, 4);
        law(x, "price 10", 0, 0);
        choiceIs(x, 100, 16, 20, 1, 1);
        // What has no worth, or less, is not taken, even for nothing.
        x.boots(0, 0);
        law(x, "price 0", 0, 0);
        choiceIs(x, 100, 0, 0, 0, 0);
    }

    private static void choiceIs(HillPaths x, int coins, int worth, int prices, int first, int second) {
        due("choice(1, " + coins + ", 0)", x.choice(1, coins, 0), worth);
        due("choice(1, " + coins + ", 1)", x.choice(1, coins, 1), prices);
        due("choice(1, " + coins + ", 2)", x.choice(1, coins, 2), first);
        due("choice(1, " + coins + ", 3)", x.choice(1, coins, 3), second);
    }

    private static void p26() {
        promise = 26;
        HillPaths x = row(3);
        due("clear()", x.clear(), 0);
        x.choose(1);
        x.choose(2);
        due("clear()", x.clear(), 2);
        due("count(6)", x.count(6), 0);
        due("clear()", x.clear(), 0);
    }

    private static void p27() {
        promise = 27;
        HillPaths x = new HillPaths();
        x.run(2);
        int[][] bad = {{1, 5}, {201, 5}, {2, 0}, {2, 100000}, {2, -1}, {-1, 5}};
        for (int[] b : bad) due("bad donor", x.donor(b[0], b[1]), BAD);
        due("donor(2, 99999)", x.donor(2, 99999), 1);
        due("donor(200, 1)", x.donor(200, 1), 2);
        for (int i = 3; i <= 12; i++) due("donor " + i, x.donor(3, 99999), i);
        due("donor when full", x.donor(3, 1), FULL);
        due("bad donor when full", x.donor(1, 1), BAD);
        due("count(7)", x.count(7), 12);
        due("count(11)", x.count(11), 0);
        x.run(1);
        due("count(11)", x.count(11), 99999);
        x.run(1);
        due("count(11)", x.count(11), 99999 * 11);
        x.run(20);
        due("count(11)", x.count(11), 99999 * 11);
        due("count(7)", x.count(7), 12);
    }

    private static void p28() {
        promise = 28;
        HillPaths x = new HillPaths();
        due("load(0)", x.load(0), BAD);
        due("load(100)", x.load(100), BAD);
        due("load(-1)", x.load(-1), BAD);
        for (int i = 0; i < 10; i++) due("load " + i, x.load(i % 2 == 0 ? 1 : 99), i);
        due("load when full", x.load(1), FULL);
        due("bad load when full", x.load(0), BAD);
        due("count(8)", x.count(8), 10);
    }

    private static void flightsAre(int many, int[] loads, int... flights) {
        HillPaths x = new HillPaths();
        for (int w : loads) x.load(w);
        due("flight(-1)", x.flight(-1), many);
        for (int i = 0; i < flights.length; i++) due("flight(" + i + ")", x.flight(i), flights[i]);
        due("flight(-2)", x.flight(-2), BAD);
        due("flight behind the last", x.flight(loads.length), BAD);
    }

    private static void p29() {
        promise = 29;
        flightsAre(0, new int[] {});
        flightsAre(1, new int[] {99}, 0);
        flightsAre(1, new int[] {50, 50}, 0, 0);
        flightsAre(2, new int[] {50, 51}, 0, 1);
        // The least flight first would need three.
        flightsAre(2, new int[] {40, 30, 60, 70}, 0, 1, 0, 1);
        flightsAre(2, new int[] {20, 30, 80, 70}, 0, 1, 0, 1);
        flightsAre(2, new int[] {10, 20, 30, 40, 100 - 1}, 0, 0, 0, 0, 1);
        flightsAre(3, new int[] {60, 50, 40, 50, 99}, 0, 1, 0, 1, 2);
        flightsAre(5, new int[] {34, 34, 34, 34, 34, 34, 34, 34, 34, 34}, 0, 0, 1, 1, 2, 2, 3, 3, 4, 4);
        flightsAre(10, new int[] {51, 52, 53, 54, 55, 56, 57, 58, 59, 60}, 0, 1, 2, 3, 4, 5, 6, 7, 8, 9);
        flightsAre(1, new int[] {10, 10, 10, 10, 10, 10, 10, 10, 10, 10}, 0, 0, 0, 0, 0, 0, 0, 0, 0, 0);
    }

    // ---- people

    private static void people() {
        p30();
        p31();
        p32();
        p33();
    }

    private static void p30() {
        promise = 30;
        HillPaths x = new HillPaths();
        int[][] bad = {{-1, 0}, {16, 0}, {0, -1}, {0, 64}, {MIN, 0}, {0, MAX}};
        for (int[] b : bad) due("bad person", x.person(b[0], b[1]), BAD);
        due("person(0, 0)", x.person(0, 0), 0);
        for (int i = 1; i < 10; i++) due("person " + i, x.person(15, 63), i);
        due("person when full", x.person(15, 63), FULL);
        due("bad person when full", x.person(16, 63), BAD);
        due("count(9)", x.count(9), 10);
    }

    private static void p31() {
        promise = 31;
        HillPaths x = new HillPaths();
        int[][] bad = {{-1, 1}, {4, 1}, {0, 0}, {0, 61}, {0, -1}, {MAX, 1}};
        for (int[] b : bad) due("bad job", x.job(b[0], b[1]), BAD);
        due("job(0, 1)", x.job(0, 1), 0);
        due("job(3, 60)", x.job(3, 60), 1);
        due("job(3, 60)", x.job(3, 60), 2);
        due("job(1, 30)", x.job(1, 30), 3);
        due("job when full", x.job(1, 30), FULL);
        due("bad job when full", x.job(1, 61), BAD);
        due("count(10)", x.count(10), 4);
    }

    private static void p32() {
        promise = 32;
        HillPaths x = new HillPaths();
        due("beds(0)", x.beds(0), 10);
        due("beds(11)", x.beds(11), BAD);
        due("beds(-1)", x.beds(-1), BAD);
        for (int i = 0; i < 5; i++) x.person(1, 63);
        x.job(0, 60);
        due("roster(-1)", x.roster(-1), 0);
        due("beds(3)", x.beds(3), 0);
        due("roster(-1)", x.roster(-1), 36);
        due("beds(5)", x.beds(5), 3);
        due("roster(-1)", x.roster(-1), 60);
        due("roster(-2)", x.roster(-2), 1);
        due("beds(10)", x.beds(10), 5);
        due("roster(-1)", x.roster(-1), 60);
    }

    private static void rosterIs(HillPaths x, int met, int days, int... jobs) {
        due("roster(-2)", x.roster(-2), met);
        due("roster(-1)", x.roster(-1), days);
        for (int w = 0; w < 6; w++) due("roster(" + w + ")", x.roster(w), jobs[w]);
    }

    private static void p33() {
        promise = 33;
        HillPaths x = new HillPaths();
        rosterIs(x, 0, 0, NONE, NONE, NONE, NONE, NONE, NONE);
        due("roster(-3)", x.roster(-3), BAD);
        due("roster(6)", x.roster(6), BAD);
        x.person(1, 63);
        x.job(0, 4);
        rosterIs(x, 1, 4, NONE, NONE, NONE, NONE, 0, 0);
        x.job(0, 3);
        // What is beyond needs is not counted: 3 of the second job.
        rosterIs(x, 2, 7, NONE, NONE, 0, 0, 1, 1);
        x.job(1, 1);
        rosterIs(x, 2, 7, NONE, NONE, 0, 0, 1, 1);
        x.job(0, 60);
        // Most jobs met stands ahead of most days.
        rosterIs(x, 2, 11, 0, 0, 1, 1, 3, 3);
        HillPaths y = new HillPaths();
        y.person(1, 63);
        y.person(2, 1);
        y.job(0, 60);
        y.job(1, 2);
        // To meet the second job the gang leaves the first one on weekend 0.
        rosterIs(y, 1, 12, 1, 0, 0, 0, 0, 0);
        HillPaths z = new HillPaths();
        z.person(1, 1);
        z.person(1, 32);
        z.job(0, 2);
        rosterIs(z, 1, 2, NONE, NONE, NONE, NONE, NONE, 0);
        z.job(0, 1);
        rosterIs(z, 2, 3, 0, NONE, NONE, NONE, NONE, 1);
    }

    // ---- counters, huts

    private static void countersAndHuts() {
        p34();
        p35();
        p36();
        p37();
        p38();
        p39();
        p40();
        p41();
        p42();
    }

    private static void p34() {
        promise = 34;
        HillPaths x = new HillPaths();
        due("counter(4, 0, 1)", x.counter(4, 0, 1), BAD);
        due("counter(-1, 0, 1)", x.counter(-1, 0, 1), BAD);
        due("counter(0, 2, 1)", x.counter(0, 2, 1), BAD);
        due("counter(0, -2, 1)", x.counter(0, -2, 1), BAD);
        due("counter(0, 2, -1)", x.counter(0, 2, -1), BAD);
        due("counter(0, 0, 25)", x.counter(0, 0, 25), BAD);
        due("counter(0, 0, -1)", x.counter(0, 0, -1), SIZE);
        due("counter(0, 1, MIN)", x.counter(0, 1, MIN), SIZE);
        due("sum(0, 0)", x.sum(0, 0), NOTHING);
        due("counter(0, 0, 24)", x.counter(0, 0, 24), 24);
        x.note(0, 23, 7);
        due("counter(0, 0, 25)", x.counter(0, 0, 25), BAD);
        due("counter(0, 1, -1)", x.counter(0, 1, -1), SIZE);
        due("sum(0, 0)", x.sum(0, 0), 7);
        due("counter(0, 1, 24)", x.counter(0, 1, 24), 24);
        due("sum(0, 0)", x.sum(0, 0), 0);
        due("counter(0, -1, 99)", x.counter(0, -1, 99), 0);
        due("sum(0, 0)", x.sum(0, 0), NOTHING);
        due("counter(0, -1, -99)", x.counter(0, -1, -99), 0);
        due("counter(3, 1, 0)", x.counter(3, 1, 0), 0);
        due("sum(3, 0)", x.sum(3, 0), 0);
    }

    private static void p35() {
        promise = 35;
        for (int sort = 0; sort < 2; sort++) {
            HillPaths x = new HillPaths();
            due("note(0, 0, 1)", x.note(0, 0, 1), NOTHING);
            due("note(4, 0, 1)", x.note(4, 0, 1), BAD);
            due("note(-1, 0, 1)", x.note(-1, 0, 1), BAD);
            due("note(0, 9, -1)", x.note(0, 9, -1), NOTHING);
            x.counter(0, sort, 3);
            due("note(0, 3, -1)", x.note(0, 3, -1), INDEX);
            due("note(0, -1, 1)", x.note(0, -1, 1), INDEX);
            due("note(0, 0, -1)", x.note(0, 0, -1), BAD);
            due("note(0, 0, 30001)", x.note(0, 0, 30001), BAD);
            due("note(0, 2, 30000)", x.note(0, 2, 30000), 1);
            due("note(0, 1, 0)", x.note(0, 1, 0), 1);
            due("note(0, 0, NONE)", x.note(0, 0, NONE), 1);
            due("span(0, 0, 1)", x.span(0, 0, 1), 0);
            due("span(0, 2, 1)", x.span(0, 2, 1), 30000);
            due("note(0, 0, 5)", x.note(0, 0, 5), 1);
            due("span(0, 0, 0)", x.span(0, 0, 0), 5);
        }
    }

    private static HillPaths counted(int sort, int... places) {
        HillPaths x = new HillPaths();
        x.counter(0, sort, places.length);
        for (int i = 0; i < places.length; i++) x.note(0, i, places[i]);
        return x;
    }

    private static void p36() {
        promise = 36;
        for (int sort = 0; sort < 2; sort++) {
            HillPaths x = counted(sort, NONE, NONE, 9, NONE, NONE, 4, 8, NONE, 8, NONE);
            int[] least = {9, 9, 9, 4, 4, 4, 8, 8, 8, 8};
            int[] most = {9, 9, 9, 9, 9, 4, 8, 8, 8, 8};
            for (int i = 0; i < 10; i++) {
                due("span(0, " + i + ", 0)", x.span(0, i, 0), least[i]);
                due("span(0, " + i + ", 1)", x.span(0, i, 1), most[i]);
            }
            due("span(0, 10, 0)", x.span(0, 10, 0), INDEX);
            due("span(0, -1, 0)", x.span(0, -1, 0), INDEX);
            due("span(0, -1, 2)", x.span(0, -1, 2), BAD);
            due("span(0, 0, -1)", x.span(0, 0, -1), BAD);
            due("span(4, 0, 0)", x.span(4, 0, 0), BAD);
            due("span(1, 0, 0)", x.span(1, 0, 0), NOTHING);
            due("span(1, 0, 2)", x.span(1, 0, 2), BAD);
            due("gaps alone", counted(sort, NONE, NONE).span(0, 1, 0), KIND);
            due("gaps alone, no such place", counted(sort, NONE, NONE).span(0, 2, 0), INDEX);
            due("of no places", counted(sort).span(0, 0, 0), INDEX);
        }
    }

    private static void p37() {
        promise = 37;
        for (int sort = 0; sort < 2; sort++) {
            HillPaths x = counted(sort, NONE, NONE, 9, NONE, NONE, 4, 8, NONE, 8, NONE);
            due("sum(0, 0)", x.sum(0, 0), 9 + 9 + 9 + 4 + 4 + 4 + 8 + 8 + 8 + 8);
            due("sum(0, 1)", x.sum(0, 1), 9 + 9 + 9 + 9 + 9 + 4 + 8 + 8 + 8 + 8);
            due("sum(0, 2)", x.sum(0, 2), BAD);
            due("sum(0, -1)", x.sum(0, -1), BAD);
            due("sum(4, 0)", x.sum(4, 0), BAD);
            due("sum(-1, 0)", x.sum(-1, 0), BAD);
            due("sum(1, 0)", x.sum(1, 0), NOTHING);
            due("sum(1, 2)", x.sum(1, 2), BAD);
            due("gaps alone", counted(sort, NONE).sum(0, 0), KIND);
            due("of no places", counted(sort).sum(0, 1), 0);
            int[] all = new int[24];
            for (int i = 0; i < 24; i++) all[i] = 30000;
            due("the greatest sum", counted(sort, all).sum(0, 1), 720000);
        }
    }

    private static void placesAre(HillPaths x, int counter, int... want) {
        for (int i = 0; i < want.length; i++) due("span(" + counter + ", " + i + ", 0)", x.span(counter, i, 0), want[i]);
    }

    private static void p38() {
        promise = 38;
        HillPaths x = counted(0, 1, 2, 3, 4, 5);
        x.counter(1, 0, 3);
        x.counter(2, 1, 5);
        due("copy(0, 1, 1, 0, 3)", x.copy(0, 1, 1, 0, 3), 3);
        placesAre(x, 1, 2, 3, 4);
        due("copy(0, 0, 0, 1, 4)", x.copy(0, 0, 0, 1, 4), 4);
        placesAre(x, 0, 1, 1, 2, 3, 4);
        due("copy(0, 2, 0, 0, 3)", x.copy(0, 2, 0, 0, 3), 3);
        placesAre(x, 0, 2, 3, 4, 3, 4);
        due("copy(0, 5, 1, 3, 0)", x.copy(0, 5, 1, 3, 0), 0);
        int[][] index = {{0, 6, 1, 0, 0}, {0, 0, 1, 4, 0}, {0, -1, 1, 0, 1}, {0, 0, 1, -1, 1}, {0, 0, 1, 0, 4},
            {0, 3, 1, 0, 3}, {0, 0, 1, 0, -1}, {0, 1, 1, 1, MAX}, {0, MAX, 1, 0, MAX}, {0, 0, 1, MIN, MIN}, {1, 0, 0, 3, 3}};
        for (int[] b : index) due("copy with no such place", x.copy(b[0], b[1], b[2], b[3], b[4]), INDEX);
        due("copy(0, 9, 2, 0, 1)", x.copy(0, 9, 2, 0, 1), KIND);
        due("copy(2, 0, 0, 0, 1)", x.copy(2, 0, 0, 0, 1), KIND);
        due("copy(0, 9, 3, 0, 1)", x.copy(0, 9, 3, 0, 1), NOTHING);
        due("copy(3, 0, 2, 0, 1)", x.copy(3, 0, 2, 0, 1), NOTHING);
        due("copy(3, 0, 4, 0, 1)", x.copy(3, 0, 4, 0, 1), BAD);
        due("copy(-1, 0, 3, 0, 1)", x.copy(-1, 0, 3, 0, 1), BAD);
        placesAre(x, 0, 2, 3, 4, 3, 4);
        placesAre(x, 1, 2, 3, 4);
        x.note(0, 0, NONE);
        x.copy(0, 0, 1, 1, 1);
        x.lay(0, 2, 1);
        due("a gap is copied", x.gaps(0), 1);
    }

    private static void p39() {
        promise = 39;
        HillPaths x = counted(1, 5, NONE);
        x.stretch(1, 9, 0, 0);
        int[][] bad = {{-1, 0, 0}, {5, 0, 0}, {0, -1, 0}, {0, 4, 0}, {0, 1, 1}, {0, 1, -1}, {0, 2, 4}, {0, 2, -1}};
        for (int[] b : bad) due("bad lay", x.lay(b[0], b[1], b[2]), BAD);
        due("lay(0, 2, 1)", x.lay(0, 2, 1), NOTHING);
        due("lay(0, 1, 0)", x.lay(0, 1, 0), 0);
        due("lay(0, 2, 1)", x.lay(0, 2, 1), NOTHING);
        due("ask(0, 0)", x.ask(0, 0), 91);
        due("lay(0, 2, 0)", x.lay(0, 2, 0), 1);
        due("lay(0, 3, MIN)", x.lay(0, 3, MIN), 2);
        due("lay(0, 0, 77)", x.lay(0, 0, 77), 3);
        due("lay(0, 0, -77)", x.lay(0, 0, -77), 0);
        // Each hut by itself.
        due("lay(4, 3, 8)", x.lay(4, 3, 8), 0);
        due("lay(3, 3, 9)", x.lay(3, 3, 9), 0);
        due("parts(4, 1)", x.parts(4, 1), 8);
    }

    private static void p40() {
        promise = 40;
        int[] efforts = {103, 123, 96, 109, 48};
        boolean[][] fits = {{true, false, false, false, false}, {true, true, false, false, false},
            {true, false, true, false, false}, {true, true, false, true, false}, {true, false, true, false, true}};
        for (int kind = 0; kind < 5; kind++) {
            HillPaths x = ofKind(kind);
            x.lay(2, 1, 0);
            x.set(0, 5, 9999);
            for (int asks = 0; asks < 5; asks++) {
                due("kind " + kind + " ask(2, " + asks + ")", x.ask(2, asks), fits[kind][asks] ? efforts[kind] : KIND);
            }
            due("ask(2, 5)", x.ask(2, 5), BAD);
            due("ask(2, -1)", x.ask(2, -1), BAD);
        }
        // As it was then, though it is mended now.
        HillPaths y = ofKind(0);
        y.lay(0, 1, 0);
        y.mend(0, 3, 2);
        y.run(1);
        due("told(0, 8)", y.told(0, 8), 3);
        due("ask(0, 0)", y.ask(0, 0), 103);
        due("ask(0, 3)", y.ask(0, 3), KIND);
        y.lay(1, 3, 5);
        due("ask(1, 0)", y.ask(1, 0), KIND);
        due("ask(3, 0)", y.ask(3, 0), NOTHING);
        due("ask(3, 5)", y.ask(3, 5), BAD);
        due("ask(5, 0)", y.ask(5, 0), BAD);
        due("ask(-1, 0)", y.ask(-1, 0), BAD);
    }

    private static void p41() {
        promise = 41;
        HillPaths x = counted(0, 5, NONE, NONE, 7);
        x.lay(0, 2, 0);
        x.note(0, 0, NONE);
        due("gaps(0)", x.gaps(0), 2);
        x.counter(0, -1, 0);
        due("gaps(0)", x.gaps(0), 2);
        due("gaps(1)", x.gaps(1), NOTHING);
        due("gaps(5)", x.gaps(5), BAD);
        due("gaps(-1)", x.gaps(-1), BAD);
        x.lay(1, 3, 2);
        due("gaps(1)", x.gaps(1), KIND);
        x.stretch(1, 1, 0, 0);
        x.lay(1, 1, 0);
        due("gaps(1)", x.gaps(1), KIND);
        x.counter(2, 1, 0);
        x.lay(1, 2, 2);
        due("gaps(1)", x.gaps(1), 0);
    }

    private static void p42() {
        promise = 42;
        HillPaths x = counted(0, 5);
        due("parts(5, 1)", x.parts(5, 1), BAD);
        due("parts(-1, 0)", x.parts(-1, 0), BAD);
        due("parts(0, 0)", x.parts(0, 0), NOTHING);
        x.lay(0, 2, 0);
        due("parts(0, 0)", x.parts(0, 0), KIND);
        x.lay(0, 3, 17);
        due("parts(0, 0)", x.parts(0, 0), NO);
        due("parts(0, 5)", x.parts(0, 5), 3);
        due("parts(0, -5)", x.parts(0, -5), -3);
        x.lay(0, 3, -17);
        due("parts(0, 5)", x.parts(0, 5), -3);
        x.lay(0, 3, MIN);
        due("parts(0, -1)", x.parts(0, -1), MIN);
        due("parts(0, 1)", x.parts(0, 1), MIN);
    }

    // ---- rows, images

    private static void rowsAndImages() {
        p43();
        p44();
        p45and46();
        p47();
    }

    private static void p43() {
        promise = 43;
        HillPaths x = new HillPaths();
        for (int i = 1; i <= 60; i++) due("tell " + i, x.tell(i), i);
        due("tell when full", x.tell(0), FULL);
        due("count(12)", x.count(12), 60);
        x.check(0);
        due("tell", x.tell(7), 1);
    }

    private static int checked(HillPaths x, int n, int... told) {
        for (int v : told) x.tell(v);
        int answer = x.check(n);
        due("count(12)", x.count(12), 0);
        return answer;
    }

    private static void p44() {
        promise = 44;
        HillPaths x = row(2);
        x.trip(2, 1000);
        x.donor(0, 500);
        x.donor(1, 20);
        due("no image", checked(x, 1, 40, 500), NO);
        due("no image, bad", checked(x, 0, 40, 500), BAD);
        x.keep();
        due("check(0)", checked(x, 0, 40, 500), BAD);
        due("check(21)", checked(x, 21, 40, 500), BAD);
        due("one year", checked(x, 1, 40, 500), 0);
        due("two years", checked(x, 2, 40, 500, 60, 520), 0);
        due("nothing told", checked(x, 2), 1);
        due("the first is wrong", checked(x, 2, 41, 500, 60, 520), 1);
        due("the second is wrong", checked(x, 2, 40, 501, 60, 520), 2);
        due("the third is wrong", checked(x, 2, 40, 500, 61, 520), 3);
        due("the fourth is wrong", checked(x, 2, 40, 500, 60, 521), 4);
        due("the second is missing", checked(x, 2, 40), 2);
        due("the third is missing", checked(x, 2, 40, 500), 3);
        due("the fourth is missing", checked(x, 2, 40, 500, 60), 4);
        due("one too many", checked(x, 2, 40, 500, 60, 520, 80), 5);
        due("too many, the first is wrong", checked(x, 1, 1, 1, 1, 1), 1);
        // From the image on, whatever is now.
        x.run(4);
        x.set(0, 5, 9999);
        x.boots(0, 5);
        due("from the image on", checked(x, 2, 40, 500, 60, 520), 0);
        due("count(14)", x.count(14), 4);
        due("told(0, 5)", x.told(0, 5), 9999);
        int[] twenty = new int[40];
        int width = 10;
        for (int i = 0; i < 20; i++) {
            width += 10 + (width > 60 ? width / 30 : 0);
            twenty[2 * i] = 2 * width;
            twenty[2 * i + 1] = i == 0 ? 500 : 520;
        }
        due("twenty years", checked(x, 20, twenty), 0);
        behindTheLastYear();
    }

    /** Behind year 200 the rain is 5, and years go on for the check. */
    private static void behindTheLastYear() {
        HillPaths x = new HillPaths();
        x.stretch(1, 5, 92, 0);
        x.rain(200, 20);
        for (int i = 0; i < 10; i++) x.run(20);
        x.set(0, 5, 10);
        x.keep();
        due("in year 200", checked(x, 3, 28, 0, 32, 0, 36, 0), 0);
        due("run(1)", x.run(1), FULL);
    }

    private static void p45and46() {
        promise = 45;
        HillPaths x = row(2);
        due("keep()", x.keep(), 0);
        promise = 46;
        x.stretch(98, 1, 0, 0);
        x.set(0, 5, 500);
        x.set(1, 7, 1);
        x.trip(2, 100);
        x.rain(3, 9);
        law(x, "leave 0", 0, 0);
        x.donor(0, 5);
        x.choose(0);
        x.load(5);
        x.person(1, 1);
        x.job(1, 1);
        x.beds(3);
        x.run(2);
        due("back()", x.back(), 0);
        int[] none = {2, 0, 0, 0, 0, 0, 0, 0, 0, 0, 0, 0, 0, 0, 0};
        for (int i = 0; i <= 14; i++) due("count(" + i + ")", x.count(i), none[i]);
        due("told(0, 5)", x.told(0, 5), 10);
        due("told(1, 7)", x.told(1, 7), 0);
        due("rain(3, 5)", x.rain(3, 5), 5);
        due("beds(10)", x.beds(10), 10);
        keptWhole();
        notKept();
        newBehindBack();
    }

    private static void keptWhole() {
        promise = 45;
        HillPaths x = row(2);
        x.trip(2, 100);
        x.donor(0, 999);
        x.donor(5, 1);
        law(x, "price l", 0, 0);
        x.run(1);
        x.mend(0, 2, 1);
        x.choose(1);
        x.load(50);
        x.person(1, 3);
        x.job(0, 2);
        x.beds(4);
        x.rain(1, 20);
        due("keep()", x.keep(), 1);
        for (int round = 0; round < 2; round++) {
            x.run(3);
            law(x, "price 77", 0, 0);
            x.boots(0, 9999);
            x.clear();
            x.beds(0);
            x.rain(1, 0);
            x.mend(1, 3, 9);
            promise = 46;
            due("back()", x.back(), 1);
            int[] want = {2, 0, 1, 1, 1, 1, 1, 2, 1, 1, 1, 989, 0, 0, 1};
            for (int i = 0; i <= 14; i++) due("count(" + i + ")", x.count(i), want[i]);
            due("told(0, 8)", x.told(0, 8), 0);
            due("told(0, 10)", x.told(0, 10), 100);
            due("mendTold(0, 3)", x.mendTold(0, 3), 0);
            due("rule(0, 2, 1)", x.rule(0, 2, 1), 10);
            due("rain(1, 20)", x.rain(1, 20), 20);
            due("beds(4)", x.beds(4), 4);
            due("choice(1, 1, 2)", x.choice(1, 1, 2), 0);
        }
        // A new image takes the place of the old one.
        x.run(1);
        due("keep()", x.keep(), 2);
        x.run(1);
        due("back()", x.back(), 2);
        due("mendTold(0, 3)", x.mendTold(0, 3), 1);
    }

    private static void notKept() {
        HillPaths x = row(1);
        x.counter(0, 0, 2);
        x.note(0, 0, 5);
        x.lay(0, 3, 9);
        x.tell(1);
        x.feed(1, 2, 3);
        x.keep();
        x.note(0, 0, 6);
        x.lay(0, 3, 10);
        x.tell(2);
        x.feed(1, 2, 3);
        x.back();
        due("sum(0, 0)", x.sum(0, 0), 6);
        due("parts(0, 1)", x.parts(0, 1), 10);
        due("count(12)", x.count(12), 2);
        due("count(13)", x.count(13), 24);
    }

    /** What was there and is no more leaves nothing to what comes in its place. */
    private static void newBehindBack() {
        promise = 46;
        HillPaths x = new HillPaths();
        x.keep();
        x.stretch(34, 9, 92, 3);
        x.trip(34, 500);
        x.donor(0, 9999);
        x.run(1);
        x.mend(0, 4, 1);
        x.run(1);
        x.set(0, 5, 77);
        x.set(0, 7, 1);
        law(x, "price 5", 0, 0);
        due("told(0, 8)", x.told(0, 8), 4);
        due("back()", x.back(), 0);
        due("told(0, 8)", x.told(0, 8), BAD);
        due("mendTold(0, 3)", x.mendTold(0, 3), BAD);
        due("of(0, 0)", x.of(0, 0), BAD);
        due("stretch(1, 5, 0, 0)", x.stretch(1, 5, 0, 0), 0);
        int[] want = {0, 1, 5, 0, 0, 10, 0, 0, 0, 51, 0, 0, 25};
        for (int i = 0; i < want.length; i++) due("told(0, " + i + ")", x.told(0, i), want[i]);
        due("trip(1, 7)", x.trip(1, 7), 0);
        due("told(0, 10)", x.told(0, 10), 7);
        due("rule(0, 2, 0)", x.rule(0, 2, 0), 50);
        x.donor(0, 500);
        x.run(1);
        due("mend(0, 1, 1)", x.mend(0, 1, 1), 0);
        due("mendTold(0, 3)", x.mendTold(0, 3), 0);
        due("count(11)", x.count(11), 400);
        law(x, "wash 8", 0, 0);
        due("of(0, 0)", x.of(0, 0), 3);
    }

    private static void p47() {
        promise = 47;
        HillPaths x = row(3);
        x.set(1, 7, 1);
        x.trip(1, 1);
        x.trip(2, 1);
        law(x, "wash 1", 0, 0);
        x.donor(0, 9999);
        x.run(1);
        x.mend(0, 1, 1);
        x.mend(1, 1, 2);
        x.run(1);
        x.mend(0, 1, 9);
        x.choose(2);
        for (int i = 0; i < 4; i++) x.load(1);
        for (int i = 0; i < 5; i++) x.person(1, 1);
        x.job(1, 1);
        x.job(1, 1);
        x.tell(3);
        x.tell(3);
        x.tell(3);
        x.feed(0, 0, 0);
        x.trim(7);
        int[] want = {3, 1, 2, 1, 3, 2, 1, 1, 4, 5, 2, 9999 - 600, 3, 7, 2};
        for (int i = 0; i <= 14; i++) due("count(" + i + ")", x.count(i), want[i]);
        due("count(15)", x.count(15), BAD);
        due("count(-1)", x.count(-1), BAD);
    }
}
