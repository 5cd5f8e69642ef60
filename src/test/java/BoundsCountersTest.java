/** Boundary cases of promises 34 to 42: counters and huts. */
public final class BoundsCountersTest {
    private static final int BAD = HillPaths.BAD, NO = HillPaths.NO, NOTHING = HillPaths.NOTHING, KIND = HillPaths.KIND;
    private static final int INDEX = HillPaths.INDEX, SIZE = HillPaths.SIZE;
    private static final int MIN = Integer.MIN_VALUE, MAX = Integer.MAX_VALUE;

    public static void main(String[] args) {
        Bounds.go(BoundsCountersTest.class, 34, 42);
    }

    /** Counter 0 as a row of a sort; NONE is a gap. */
    private static Script row(int sort, String... places) {
        Script s = new Script("counter 0 " + sort + " " + places.length);
        for (int i = 0; i < places.length; i++) s = s.plus("note 0 " + i + " " + places[i]);
        return s;
    }

    private static void spans(Script s, int[] least, int[] greatest) {
        HillPaths x = s.hill();
        for (int i = 0; i < least.length; i++) {
            Bounds.due("span(0, " + i + ", 0)", x.span(0, i, 0), least[i]);
            Bounds.due("span(0, " + i + ", 1)", x.span(0, i, 1), greatest[i]);
        }
        Bounds.due("span behind the last", x.span(0, least.length, 0), INDEX);
    }

    // ---- promise 34

    static void p34_counterIs0To3() {
        Bounds.run("counter 0 0 1 = 1", "counter 3 1 2 = 2", "sum 0 0 = 0", "sum 3 0 = 0", "sum 1 0 = NOTHING");
        Bounds.refusedAnywhere(BAD, "counter -1 0 1", "counter 4 0 1", "counter MIN 0 1", "counter MAX 0 1", "counter 4 -1 0", "counter -1 -1 0");
    }

    static void p34_sortIsMinus1To1() {
        Bounds.refusedAnywhere(BAD, "counter 0 -2 1", "counter 0 2 1", "counter 0 MIN 1", "counter 0 MAX 1");
        Bounds.run("counter 0 0 1 = 1", "counter 1 1 1 = 1", "copy 0 0 1 0 1 = KIND", "counter 0 -1 1 = 0", "sum 0 0 = NOTHING");
    }

    static void p34_placesAre0To24() {
        for (int sort = 0; sort < 2; sort++) {
            Bounds.run("counter 0 " + sort + " 0 = 0", "note 0 0 5 = INDEX", "counter 0 " + sort + " 1 = 1", "note 0 0 5 = 1", "note 0 1 5 = INDEX",
                "counter 0 " + sort + " 24 = 24", "note 0 23 5 = 1", "note 0 24 5 = INDEX");
            Bounds.refusedAnywhere(BAD, "counter 0 " + sort + " 25", "counter 0 " + sort + " MAX");
        }
    }

    static void p34_belowNoPlacesIsSize() {
        Bounds.refusedAnywhere(SIZE, "counter 0 0 -1", "counter 0 1 -1", "counter 3 0 MIN", "counter 2 1 NONE");
    }

    static void p34_badStandsAheadOfSize() {
        Bounds.refusedAnywhere(BAD, "counter 4 0 -1", "counter -1 1 -1", "counter 0 2 -1", "counter 0 -2 MIN");
    }

    static void p34_missingTakesAnyN() {
        for (String n : new String[] {"MIN", "-1", "0", "24", "25", "MAX"}) {
            Bounds.run("counter 0 0 3", "counter 0 -1 " + n + " = 0", "sum 0 0 = NOTHING");
            Bounds.leaves(States.FRESH, States.FRESH, "counter 2 -1 " + n, 0);
        }
    }

    static void p34_allPlacesAre0Again() {
        for (int sort = 0; sort < 2; sort++) {
            Script s = row(sort, "7", "NONE", "30000").plus("counter 0 " + sort + " 24");
            for (int p = 0; p < 24; p++) Bounds.runFrom(s, "span 0 " + p + " 0 = 0", "span 0 " + p + " 1 = 0");
            Bounds.runFrom(s, "lay 0 2 0", "gaps 0 = 0");
        }
        // What stood behind a shorter row's end is not there when it is longer again.
        Bounds.runFrom(row(0, "1", "2", "3"), "counter 0 0 1", "counter 0 0 3", "sum 0 0 = 0");
        Bounds.runFrom(row(0, "1", "2", "3"), "counter 0 -1 0", "counter 0 0 3", "sum 0 0 = 0");
    }

    // ---- promise 35

    static void p35_counterIs0To3() {
        Bounds.refusedAnywhere(BAD, "note -1 0 1", "note 4 0 1", "note MIN 0 1", "note MAX 0 1");
        Bounds.run("counter 3 0 1", "note 3 0 5 = 1", "sum 3 0 = 5");
    }

    static void p35_ofAMissingOneNothing() {
        Bounds.refused(States.FRESH, NOTHING, "note 0 0 1", "note 3 0 NONE");
        Bounds.refused(States.BUSY, NOTHING, "note 3 0 1");
    }

    static void p35_placeIsOneOfItsOwn() {
        Bounds.refused(States.BUSY, INDEX, "note 0 -1 1", "note 0 5 1", "note 0 MIN 1", "note 0 MAX 1", "note 2 24 1");
        Bounds.refused(new Script("counter 0 0 0"), INDEX, "note 0 0 1", "note 0 -1 1");
        Bounds.runFrom(States.BUSY, "note 0 4 9 = 1", "span 0 4 0 = 9", "note 0 0 8 = 1", "span 0 0 0 = 8");
    }

    static void p35_vIs0To30000OrNone() {
        for (int sort = 0; sort < 2; sort++) {
            Script s = row(sort, "1", "2");
            Bounds.runFrom(s, "note 0 0 0 = 1", "span 0 0 0 = 0", "note 0 0 30000 = 1", "span 0 0 0 = 30000", "note 0 0 NONE = 1", "span 0 0 0 = 2");
            Bounds.refused(s, BAD, "note 0 0 -1", "note 0 0 30001", "note 0 0 MIN", "note 0 0 MAX", "note 0 0 NOTHING", "note 0 0 BAD",
                "note 0 0 32768", "note 0 0 65536", "note 0 0 65535");
        }
    }

    static void p35_whichRefusalIsAnswered() {
        Bounds.refused(States.BUSY, BAD, "note 4 -1 -1", "note -1 99 30001");
        Bounds.refused(States.BUSY, NOTHING, "note 3 -1 -1", "note 3 99 30001");
        Bounds.refused(States.BUSY, INDEX, "note 0 5 -1", "note 0 -1 30001");
        Bounds.refused(States.BUSY, BAD, "note 0 4 -1", "note 0 4 30001");
    }

    static void p35_aGapMayBecomeANumberAgain() {
        Bounds.runFrom(row(0, "5", "NONE", "7"), "note 0 1 6 = 1", "span 0 1 0 = 6", "span 0 1 1 = 6", "note 0 1 NONE = 1", "span 0 1 0 = 5");
    }

    // ---- promise 36

    static void p36_counterIs0To3WhatIs0Or1() {
        Bounds.refusedAnywhere(BAD, "span -1 0 0", "span 4 0 0", "span MIN 0 0", "span MAX 0 0", "span 0 0 -1", "span 0 0 2", "span 0 0 MIN",
            "span 0 0 MAX");
        Bounds.leaves(States.BUSY, States.BUSY, "span 0 2 0", 10);
        Bounds.leaves(States.BUSY, States.BUSY, "span 0 2 1", 40);
    }

    static void p36_ofAMissingOneNothing() {
        Bounds.refused(States.FRESH, NOTHING, "span 0 0 0", "span 3 0 1");
        Bounds.refused(States.BUSY, NOTHING, "span 3 0 0");
    }

    static void p36_placeIsOneOfItsOwn() {
        Bounds.refused(States.BUSY, INDEX, "span 0 -1 0", "span 0 5 0", "span 0 MIN 1", "span 0 MAX 1", "span 2 24 0");
        Bounds.leaves(States.BUSY, States.BUSY, "span 2 23 0", 7);
        Bounds.refused(new Script("counter 0 1 0"), INDEX, "span 0 0 0");
    }

    static void p36_gapsAtTheEndsHaveOneSide() {
        for (int sort = 0; sort < 2; sort++) {
            spans(row(sort, "NONE", "9"), new int[] {9, 9}, new int[] {9, 9});
            spans(row(sort, "9", "NONE"), new int[] {9, 9}, new int[] {9, 9});
            spans(row(sort, "NONE", "NONE", "3", "8", "NONE", "NONE"), new int[] {3, 3, 3, 8, 8, 8}, new int[] {3, 3, 3, 8, 8, 8});
        }
    }

    static void p36_theNearestOnBothSides() {
        for (int sort = 0; sort < 2; sort++) {
            spans(row(sort, "1", "4", "NONE", "NONE", "2", "9"), new int[] {1, 4, 2, 2, 2, 9}, new int[] {1, 4, 4, 4, 2, 9});
            spans(row(sort, "2", "NONE", "4"), new int[] {2, 2, 4}, new int[] {2, 4, 4});
            spans(row(sort, "5", "NONE", "5"), new int[] {5, 5, 5}, new int[] {5, 5, 5});
            spans(row(sort, "0", "NONE", "30000"), new int[] {0, 0, 30000}, new int[] {0, 30000, 30000});
        }
        String[] far = new String[24];
        int[] least = new int[24], greatest = new int[24];
        for (int i = 0; i < 24; i++) {
            far[i] = i == 0 ? "8" : i == 23 ? "3" : "NONE";
            least[i] = i == 0 ? 8 : 3;
            greatest[i] = i == 23 ? 3 : 8;
        }
        spans(row(0, far), least, greatest);
    }

    static void p36_aPlaceOf0IsNoGap() {
        for (int sort = 0; sort < 2; sort++) spans(row(sort, "7", "0", "NONE"), new int[] {7, 0, 0}, new int[] {7, 0, 0});
    }

    static void p36_gapsAloneAreKind() {
        for (int sort = 0; sort < 2; sort++) {
            Bounds.refused(row(sort, "NONE"), KIND, "span 0 0 0", "span 0 0 1");
            Bounds.refused(row(sort, "NONE", "NONE", "NONE"), KIND, "span 0 0 0", "span 0 1 1", "span 0 2 0");
            Bounds.refused(new Script("counter 0 " + sort + " 24").plus(allGaps()), KIND, "span 0 0 0", "span 0 23 1");
        }
    }

    private static String[] allGaps() {
        String[] lines = new String[24];
        for (int i = 0; i < 24; i++) lines[i] = "note 0 " + i + " NONE";
        return lines;
    }

    static void p36_whichRefusalIsAnswered() {
        Script gaps = row(0, "NONE");
        Bounds.refused(gaps, BAD, "span 4 9 0", "span 0 9 2", "span 1 9 2", "span 0 0 2");
        Bounds.refused(gaps, NOTHING, "span 1 9 0", "span 1 -1 1");
        Bounds.refused(gaps, INDEX, "span 0 1 0", "span 0 -1 0");
        Bounds.refused(gaps, KIND, "span 0 0 0");
    }

    // ---- promise 37

    static void p37_counterIs0To3WhatIs0Or1() {
        Bounds.refusedAnywhere(BAD, "sum -1 0", "sum 4 0", "sum MIN 0", "sum MAX 0", "sum 0 -1", "sum 0 2", "sum 0 MIN", "sum 0 MAX");
        Bounds.leaves(States.BUSY, States.BUSY, "sum 0 0", 40 + 40 + 10 + 10 + 10);
        Bounds.leaves(States.BUSY, States.BUSY, "sum 0 1", 40 + 40 + 40 + 10 + 10);
    }

    static void p37_ofAMissingOneNothing() {
        Bounds.refused(States.FRESH, NOTHING, "sum 0 0", "sum 3 1");
        Bounds.refused(States.BUSY, NOTHING, "sum 3 0");
    }

    static void p37_ofNoPlaces0() {
        for (int sort = 0; sort < 2; sort++) {
            Script s = new Script("counter 0 " + sort + " 0");
            Bounds.leaves(s, s, "sum 0 0", 0);
            Bounds.leaves(s, s, "sum 0 1", 0);
        }
    }

    static void p37_gapsAloneAreKind() {
        for (int sort = 0; sort < 2; sort++) {
            Bounds.refused(row(sort, "NONE"), KIND, "sum 0 0", "sum 0 1");
            Bounds.refused(new Script("counter 0 " + sort + " 24").plus(allGaps()), KIND, "sum 0 0", "sum 0 1");
            Bounds.runFrom(new Script("counter 0 " + sort + " 24").plus(allGaps()), "note 0 11 3 = 1", "sum 0 0 = 72", "sum 0 1 = 72");
        }
    }

    static void p37_theGreatestSum() {
        String[] all = new String[24], ends = new String[24];
        for (int i = 0; i < 24; i++) {
            all[i] = "30000";
            ends[i] = i == 0 ? "30000" : i == 23 ? "0" : "NONE";
        }
        for (int sort = 0; sort < 2; sort++) {
            Bounds.runFrom(row(sort, all), "sum 0 0 = 720000", "sum 0 1 = 720000");
            Bounds.runFrom(row(sort, ends), "sum 0 0 = 30000", "sum 0 1 = 690000");
        }
    }

    static void p37_whichRefusalIsAnswered() {
        Script gaps = row(1, "NONE");
        Bounds.refused(gaps, BAD, "sum 4 0", "sum 1 2", "sum 0 2");
        Bounds.refused(gaps, NOTHING, "sum 1 0");
        Bounds.refused(gaps, KIND, "sum 0 0");
    }

    // ---- promise 38

    /** Counters 0 (5 places), 1 (3 places) of shorts, 2 (4 places) of floats, 3 missing. */
    private static Script rows() {
        return row(0, "1", "2", "3", "4", "5").plus("counter 1 0 3", "note 1 0 10", "note 1 1 20", "note 1 2 30", "counter 2 1 4", "note 2 0 7");
    }

    private static void places(Script s, String call, int want, int... five) {
        HillPaths x = s.hill();
        Bounds.due(call, Script.call(call).on(x), want);
        for (int i = 0; i < five.length; i++) Bounds.due(call + ", then span(0, " + i + ", 0)", x.span(0, i, 0), five[i]);
    }

    static void p38_countersAre0To3() {
        Bounds.refusedAnywhere(BAD, "copy -1 0 0 0 0", "copy 4 0 0 0 0", "copy 0 0 -1 0 0", "copy 0 0 4 0 0", "copy MIN 0 0 0 0", "copy MAX 0 0 0 0",
            "copy 0 0 MIN 0 0", "copy 0 0 MAX 0 0");
        Script s = new Script("counter 3 1 2", "note 3 0 6", "counter 2 1 2");
        Bounds.runFrom(s, "copy 3 0 2 1 1 = 1", "span 2 1 0 = 6", "copy 2 1 3 1 1 = 1", "sum 3 0 = 12");
    }

    static void p38_ofAMissingOneNothing() {
        Bounds.refused(States.FRESH, NOTHING, "copy 0 0 0 0 0", "copy 0 0 1 0 0");
        Bounds.refused(rows(), NOTHING, "copy 3 0 0 0 0", "copy 0 0 3 0 0", "copy 3 0 3 0 0", "copy 3 0 2 0 1");
    }

    static void p38_ofTwoSortsKind() {
        Bounds.refused(rows(), KIND, "copy 0 0 2 0 1", "copy 2 0 0 0 1", "copy 0 0 2 0 0", "copy 2 0 1 0 0");
    }

    static void p38_placesOfTheOneItComesFrom() {
        places(rows(), "copy 0 0 0 0 5", 5, 1, 2, 3, 4, 5);
        Bounds.refused(rows(), INDEX, "copy 0 0 0 0 6", "copy 0 1 0 0 5", "copy 0 5 0 0 1", "copy 0 -1 0 0 1", "copy 0 -1 0 0 0", "copy 0 6 0 0 0",
            "copy 0 MIN 0 0 1", "copy 0 MAX 0 0 1", "copy 0 MAX 0 0 MAX", "copy 0 1 0 0 MAX", "copy 0 MIN 0 0 MIN");
        Bounds.leaves(rows(), rows(), "copy 0 5 0 0 0", 0);
        places(rows(), "copy 0 4 0 0 1", 1, 5, 2, 3, 4, 5);
    }

    static void p38_placesOfTheOneItComesTo() {
        places(rows(), "copy 1 0 0 2 3", 3, 1, 2, 10, 20, 30);
        Bounds.refused(rows(), INDEX, "copy 0 0 1 0 4", "copy 0 0 1 1 3", "copy 0 0 1 3 1", "copy 0 0 1 -1 1", "copy 0 0 1 -1 0", "copy 0 0 1 4 0",
            "copy 0 0 1 MIN 1", "copy 0 0 1 MAX 1", "copy 1 0 0 3 3", "copy 0 0 1 1 MAX");
        Bounds.leaves(rows(), rows(), "copy 0 0 1 3 0", 0);
        places(rows(), "copy 1 2 0 4 1", 1, 1, 2, 3, 4, 30);
    }

    static void p38_soManyIs0OrMore() {
        Bounds.leaves(rows(), rows(), "copy 0 2 1 1 0", 0);
        Bounds.refused(rows(), INDEX, "copy 0 0 1 0 -1", "copy 0 2 1 1 -1", "copy 0 0 1 0 MIN", "copy 0 5 1 3 -1");
        Script none = new Script("counter 0 0 0", "counter 1 0 0");
        Bounds.leaves(none, none, "copy 0 0 1 0 0", 0);
        Bounds.refused(none, INDEX, "copy 0 0 1 0 1", "copy 0 1 1 0 0", "copy 0 0 1 1 0");
    }

    static void p38_withinOneRowAsTheyWere() {
        places(rows(), "copy 0 0 0 1 4", 4, 1, 1, 2, 3, 4);
        places(rows(), "copy 0 1 0 0 4", 4, 2, 3, 4, 5, 5);
        places(rows(), "copy 0 0 0 2 3", 3, 1, 2, 1, 2, 3);
        places(rows(), "copy 0 2 0 1 3", 3, 1, 3, 4, 5, 5);
    }

    static void p38_gapsComeAlong() {
        for (int sort = 0; sort < 2; sort++) {
            Script s = row(sort, "NONE", "6", "NONE").plus("counter 1 " + sort + " 3", "copy 0 0 1 0 3", "lay 0 2 1");
            Bounds.runFrom(s, "gaps 0 = 2", "sum 1 0 = 18");
            Bounds.runFrom(s, "counter 0 " + sort + " 3", "copy 0 0 1 0 3 = 3", "lay 0 2 1", "gaps 0 = 0", "sum 1 1 = 0");
        }
    }

    static void p38_whichRefusalIsAnswered() {
        Bounds.refused(rows(), BAD, "copy 4 9 3 9 -1", "copy 3 9 4 9 9", "copy 0 9 -1 9 9");
        Bounds.refused(rows(), NOTHING, "copy 0 9 3 9 9", "copy 3 -1 2 -1 -1");
        Bounds.refused(rows(), KIND, "copy 0 9 2 9 9", "copy 2 -1 0 -1 -1");
        Bounds.refused(rows(), INDEX, "copy 0 9 1 9 9");
    }

    // ---- promise 39

    static void p39_hutIs0To4ThingIs0To3() {
        Bounds.refusedAnywhere(BAD, "lay -1 0 0", "lay 5 0 0", "lay MIN 0 0", "lay MAX 0 0", "lay 0 -1 0", "lay 0 4 0", "lay 0 MIN 0", "lay 0 MAX 0",
            "lay 5 3 7", "lay -1 3 7");
        Bounds.run("lay 0 3 1 = 0", "lay 4 3 2 = 0", "parts 0 1 = 1", "parts 4 1 = 2", "parts 1 1 = NOTHING", "parts 2 1 = NOTHING",
            "parts 3 1 = NOTHING");
    }

    static void p39_stretchIsOneThatThereIs() {
        Bounds.refused(States.FRESH, BAD, "lay 0 1 0", "lay 0 1 -1");
        Bounds.refused(States.BUSY, BAD, "lay 0 1 -1", "lay 0 1 6", "lay 0 1 MIN", "lay 0 1 MAX");
        Bounds.refused(States.FULL, BAD, "lay 0 1 16");
        Bounds.runFrom(States.FULL, "lay 0 1 0 = 1", "lay 0 1 15 = 1");
    }

    static void p39_counterIs0To3AndThere() {
        for (Script from : States.ALL) Bounds.refused(from, BAD, "lay 0 2 -1", "lay 0 2 4", "lay 0 2 MIN", "lay 0 2 MAX");
        Bounds.refused(States.FRESH, NOTHING, "lay 0 2 0", "lay 4 2 3");
        Bounds.refused(States.BUSY, NOTHING, "lay 0 2 3", "lay 1 2 3", "lay 2 2 3", "lay 3 2 3");
        Bounds.run("counter 3 0 0", "lay 0 2 3 = 0", "gaps 0 = 0");
    }

    static void p39_badStandsAheadOfNothing() {
        Bounds.refused(States.FRESH, BAD, "lay 5 2 0", "lay -1 2 3", "lay 0 2 4");
    }

    static void p39_coinsAreAnyNumber() {
        for (String k : new String[] {"MIN", "-1", "0", "1", "MAX", "NONE", "BAD"}) {
            Bounds.run("lay 0 3 " + k + " = 0", "parts 0 1 = " + k, "lay 0 0 0 = 3");
        }
    }

    static void p39_nothingTakesAnyK() {
        for (String k : new String[] {"MIN", "-1", "0", "99", "MAX"}) {
            Bounds.run("lay 0 3 5 = 0", "lay 0 0 " + k + " = 3", "parts 0 1 = NOTHING");
            Bounds.leaves(States.FRESH, States.FRESH, "lay 0 0 " + k, 0);
        }
    }

    static void p39_whatItHeld() {
        Script s = new Script("stretch 1 9 0 0", "counter 0 0 1");
        for (int first = 0; first <= 3; first++) {
            for (int second = 0; second <= 3; second++) {
                Bounds.runFrom(s, "lay 2 " + first + " 0 = 0", "lay 2 " + second + " 0 = " + first, "lay 2 0 0 = " + second);
            }
        }
    }

    static void p39_aRowOfItsOwn() {
        Script s = row(0, "1", "NONE", "NONE").plus("lay 0 2 0");
        Bounds.runFrom(s, "note 0 1 5", "gaps 0 = 2", "counter 0 1 3", "gaps 0 = 2", "counter 0 -1 0", "gaps 0 = 2", "lay 1 2 0 = NOTHING");
    }

    static void p39_ofAStretchThatIsGoneItStays() {
        Bounds.run("keep", "stretch 1 9 0 0", "lay 0 1 0 = 0", "back", "count 0 = 0", "ask 0 0 = 91", "lay 1 1 0 = BAD", "lay 0 0 0 = 1");
    }

    // ---- promise 40

    static void p40_hutIs0To4KindIs0To4() {
        Bounds.refusedAnywhere(BAD, "ask -1 0", "ask 5 0", "ask MIN 0", "ask MAX 0", "ask 0 -1", "ask 0 5", "ask 0 MIN", "ask 0 MAX");
        Script s = new Script("stretch 1 9 0 0", "lay 4 1 0", "lay 0 1 0");
        Bounds.leaves(s, s, "ask 4 0", 91);
        Bounds.leaves(s, s, "ask 0 0", 91);
    }

    static void p40_ofNothingNothing() {
        Bounds.refused(States.FRESH, NOTHING, "ask 0 0", "ask 4 4");
        Bounds.refused(States.BUSY, NOTHING, "ask 3 0", "ask 3 4");
    }

    static void p40_ofAnotherThingKind() {
        Bounds.refused(States.BUSY, KIND, "ask 1 0", "ask 1 4", "ask 2 0", "ask 2 4");
    }

    static void p40_kindsUnderOneAnother() {
        String[] fits = {"0", "01", "02", "013", "024"};
        int[] efforts = {99 + 5, 99 + 5 + 5, 99 + 5 - 9, 99 + 5 + 5 - 18, (99 + 5 - 9) / 2};
        for (int kind = 0; kind < 5; kind++) {
            Script s = new Script("stretch 1 9 10 0", "law 'price 0' 0 0");
            if (kind > 0) s = s.plus("mend 0 " + kind + " 0");
            s = s.plus("run 1", "set 0 5 50", "lay 0 1 0", "set 0 5 9999");
            for (int asks = 0; asks < 5; asks++) {
                Bounds.leaves(s, s, "ask 0 " + asks, fits[kind].indexOf('0' + asks) >= 0 ? efforts[kind] : KIND);
            }
        }
    }

    static void p40_asItWasForGood() {
        Script s = new Script("stretch 1 9 0 0", "law 'price 0' 0 0", "lay 0 1 0", "mend 0 4 0", "run 1", "set 0 5 9999", "lay 1 1 0");
        Bounds.runFrom(s, "ask 0 0 = 91", "ask 0 4 = KIND", "ask 1 4 = " + (90 + 999 - 9) / 2, "ask 1 1 = KIND", "set 0 5 10", "ask 1 2 = 540");
    }

    static void p40_whichRefusalIsAnswered() {
        Bounds.refused(States.BUSY, BAD, "ask 3 5", "ask 1 -1", "ask 5 0");
        Bounds.refused(States.BUSY, NOTHING, "ask 3 1");
        Bounds.refused(States.BUSY, KIND, "ask 4 1", "ask 1 0");
    }

    // ---- promise 41

    static void p41_hutIs0To4() {
        Bounds.refusedAnywhere(BAD, "gaps -1", "gaps 5", "gaps MIN", "gaps MAX");
        Script s = row(0, "NONE").plus("lay 0 2 0", "lay 4 2 0");
        Bounds.leaves(s, s, "gaps 0", 1);
        Bounds.leaves(s, s, "gaps 4", 1);
    }

    static void p41_ofNothingNothingOfOthersKind() {
        Bounds.refused(States.FRESH, NOTHING, "gaps 0", "gaps 4");
        Bounds.refused(States.BUSY, NOTHING, "gaps 3");
        Bounds.refused(States.BUSY, KIND, "gaps 0", "gaps 2", "gaps 4");
    }

    static void p41_noneSomeAndAll() {
        for (int sort = 0; sort < 2; sort++) {
            Bounds.runFrom(row(sort), "lay 0 2 0 = 0", "gaps 0 = 0");
            Bounds.runFrom(row(sort, "0"), "lay 0 2 0 = 0", "gaps 0 = 0");
            Bounds.runFrom(row(sort, "NONE"), "lay 0 2 0 = 0", "gaps 0 = 1");
            Bounds.runFrom(new Script("counter 0 " + sort + " 24").plus(allGaps()), "lay 0 2 0 = 0", "gaps 0 = 24");
        }
    }

    // ---- promise 42

    static void p42_hutIs0To4() {
        Bounds.refusedAnywhere(BAD, "parts -1 1", "parts 5 1", "parts MIN 1", "parts MAX 1", "parts 5 0", "parts -1 0");
        Script s = new Script("lay 0 3 9", "lay 4 3 8");
        Bounds.leaves(s, s, "parts 0 1", 9);
        Bounds.leaves(s, s, "parts 4 1", 8);
    }

    static void p42_by0IsNo() {
        Bounds.refused(new Script("lay 0 3 9"), NO, "parts 0 0");
        Bounds.refused(new Script("lay 0 3 0"), NO, "parts 0 0");
        Bounds.refused(States.BUSY, NO, "parts 2 0");
    }

    static void p42_cutTowards0() {
        int[][] cases = {{0, 5, 0}, {4, 5, 0}, {-4, 5, 0}, {5, 5, 1}, {9, 5, 1}, {-9, 5, -1}, {9, -5, -1}, {-9, -5, 1}, {10, -5, -2}};
        for (int[] c : cases) Bounds.run("lay 0 3 " + c[0], "parts 0 " + c[1] + " = " + c[2]);
    }

    static void p42_theGreatestAndTheLeastNumber() {
        Bounds.run("lay 0 3 MIN", "parts 0 1 = MIN", "parts 0 MIN = 1", "parts 0 MAX = -1", "parts 0 2 = -1073741824");
        Bounds.run("lay 0 3 MAX", "parts 0 1 = MAX", "parts 0 MAX = 1", "parts 0 MIN = 0", "parts 0 -1 = " + -MAX);
        Bounds.run("lay 0 3 1", "parts 0 MIN = 0", "parts 0 MAX = 0");
    }

    static void p42_whatIsTooGreatWraps() {
        Bounds.run("lay 0 3 MIN", "parts 0 -1 = " + MIN);
    }

    static void p42_whichRefusalIsAnswered() {
        Bounds.refused(States.BUSY, BAD, "parts 5 0");
        Bounds.refused(States.BUSY, NOTHING, "parts 3 0", "parts 3 1");
        Bounds.refused(States.BUSY, KIND, "parts 0 0", "parts 1 0", "parts 0 1", "parts 4 1");
        Bounds.refused(States.BUSY, NO, "parts 2 0");
    }
}
