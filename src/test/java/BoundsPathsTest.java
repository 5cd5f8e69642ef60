/** Boundary cases of promises 1 to 12: paths. */
public final class BoundsPathsTest {
    private static final int BAD = HillPaths.BAD, FULL = HillPaths.FULL, NONE = HillPaths.NONE, KIND = HillPaths.KIND;

    public static void main(String[] args) {
        Bounds.go(BoundsPathsTest.class, 1, 12);
    }

    /** Stretch 0 (cairns 0, 1) of a kind, open year 1, no trips; it is 10 wide. */
    private static Script ofKind(int kind, int length, int ground) {
        Script s = new Script("stretch 1 " + length + " " + ground + " 0", "law 'price 0' 0 0");
        if (kind > 0) s = s.plus("mend 0 " + kind + " 0");
        return s.plus("run 1", "set 0 5 10");
    }

    /** All other numbers that two cairns could be told as, near and far. */
    private static boolean areUnlikeCairns(int c) {
        return c >= 0 && c <= 99 && c / 10 != c % 10;
    }

    // ---- promise 1

    static void p01_thereIsNoneOfAnything() {
        for (int i = 0; i <= 14; i++) Bounds.run("count " + i + " = 0");
        Bounds.run("told 0 0 = BAD", "as 0 0 = BAD", "set 0 5 9 = BAD", "boots 0 1 = BAD", "way 0 0 = BAD", "without 0 0 = BAD",
            "of 0 0 = BAD", "why 0 0 = NONE", "rule 0 0 0 = BAD", "mend 0 1 0 = BAD", "mendTold 0 0 = BAD", "worth 0 1 1 = BAD",
            "choose 0 = BAD", "flight 0 = BAD", "lay 0 1 0 = BAD");
    }

    static void p01_whatIsAskedOfNothing() {
        Bounds.run("closing = 0", "washed 0 = NONE", "clear = 0", "choice 1 0 0 = 0", "choice 30 999999 1 = 0", "flight -1 = 0",
            "roster -2 = 0", "roster -1 = 0", "roster 0 = NONE", "roster 5 = NONE", "lost 20 = 0", "trim 0 = 0", "text 0 0 = -100",
            "run 1 = 1");
    }

    static void p01_rainIs5AtFirst() {
        Script s = new Script();
        for (int y = 0; y <= 200; y++) s = s.plus("rain " + y + " 5 = 5");
        HillPaths x = new HillPaths();
        for (Script.Call c : s.calls) Bounds.due(c.line, c.on(x), c.want);
    }

    static void p01_bedsAre10AtFirst() {
        Bounds.run("beds 10 = 10");
    }

    static void p01_countersAreMissingAtFirst() {
        for (int c = 0; c < 4; c++) Bounds.run("sum " + c + " 0 = NOTHING", "span " + c + " 0 0 = NOTHING", "note " + c + " 0 0 = NOTHING");
    }

    static void p01_hutsHoldNothingAtFirst() {
        for (int h = 0; h < 5; h++) {
            Bounds.run("ask " + h + " 0 = NOTHING", "gaps " + h + " = NOTHING", "parts " + h + " 1 = NOTHING", "lay " + h + " 0 0 = 0");
        }
    }

    static void p01_thereIsNoImageAtFirst() {
        Bounds.run("back = NO", "check 1 = NO", "check 20 = NO");
    }

    static void p01_twoObjectsShareNothing() {
        HillPaths full = States.FULL.hill();
        Bounds.must(Views.difference(States.FRESH, States.FRESH) == null, "a new object is new beside a full one");
        Bounds.due("count(0) of the full one", full.count(0), 16);
    }

    static void p01_theLastOf512CallsIsAnswered() {
        Bounds.run("stretch 1 1 0 0", "trip 1 100", "509 * told 0 10 = 100", "run 1 = 1");
    }

    // ---- promise 2

    static void p02_cairnsAre0To9AndUnlike() {
        for (int c = -25; c <= 125; c++) {
            String call = "stretch " + c + " 1 0 0";
            if (areUnlikeCairns(c)) Bounds.run(call + " = 0", "told 0 0 = " + c / 10, "told 0 1 = " + c % 10);
            else Bounds.refused(States.FRESH, BAD, call);
        }
        Bounds.refusedAnywhere(BAD, "stretch MIN 1 0 0", "stretch MAX 1 0 0", "stretch -1 1 0 0", "stretch 100 1 0 0", "stretch 0 1 0 0",
            "stretch 99 1 0 0");
    }

    static void p02_lengthIs1To99() {
        Bounds.run("stretch 1 1 0 0 = 0", "stretch 1 99 0 0 = 1", "told 0 2 = 1", "told 1 2 = 99");
        Bounds.refusedAnywhere(BAD, "stretch 1 0 0 0", "stretch 1 100 0 0", "stretch 1 -1 0 0", "stretch 1 MIN 0 0", "stretch 1 MAX 0 0");
    }

    static void p02_slopeIs0To9AndSoil0To2() {
        for (int g = -12; g <= 112; g++) {
            String call = "stretch 1 1 " + g + " 0";
            if (g >= 0 && g <= 92 && g % 10 <= 2) Bounds.run(call + " = 0", "told 0 3 = " + g / 10, "told 0 4 = " + g % 10);
            else Bounds.refused(States.FRESH, BAD, call);
        }
        Bounds.refusedAnywhere(BAD, "stretch 1 1 3 0", "stretch 1 1 93 0", "stretch 1 1 100 0", "stretch 1 1 -1 0", "stretch 1 1 MIN 0",
            "stretch 1 1 MAX 0");
    }

    static void p02_ownerIs0To3() {
        Bounds.run("stretch 1 1 0 0 = 0", "stretch 1 1 0 3 = 1", "told 0 6 = 0", "told 1 6 = 3");
        Bounds.refusedAnywhere(BAD, "stretch 1 1 0 -1", "stretch 1 1 0 4", "stretch 1 1 0 MIN", "stretch 1 1 0 MAX");
    }

    static void p02_atFirst10WideOpenAndPlain() {
        Bounds.run("stretch 1 1 0 0 = 0", "told 0 5 = 10", "told 0 7 = 0", "told 0 8 = 0");
    }

    static void p02_aPlaceThatIsUsedAgainIsAsNew() {
        Bounds.run("law 'price 0' 3 0", "keep", "stretch 34 9 92 3", "mend 0 4 0", "run 1", "set 0 5 77", "set 0 7 1", "told 0 8 = 4", "back",
            "stretch 1 5 0 0 = 0", "told 0 0 = 0", "told 0 1 = 1", "told 0 2 = 5", "told 0 3 = 0", "told 0 4 = 0", "told 0 5 = 10", "told 0 6 = 0",
            "told 0 7 = 0", "told 0 8 = 0", "count 1 = 0");
    }

    static void p02_sixteenAtMostNumberedFrom0() {
        Script s = new Script();
        for (int i = 0; i < 16; i++) s = s.plus("stretch 12 " + (i + 1) + " 0 0 = " + i);
        HillPaths x = new HillPaths();
        for (Script.Call c : s.calls) Bounds.due(c.line, c.on(x), c.want);
        for (int i = 0; i < 16; i++) Bounds.due("told(" + i + ", 2)", x.told(i, 2), i + 1);
        Bounds.refused(s, FULL, "stretch 12 1 0 0", "stretch 34 99 92 3");
        Bounds.refused(States.FULL, FULL, "stretch 12 1 0 0");
    }

    static void p02_badStandsAheadOfFull() {
        Bounds.refused(States.FULL, BAD, "stretch 11 1 0 0", "stretch 1 0 0 0", "stretch 1 1 3 0", "stretch 1 1 0 4");
    }

    static void p02_aStretchMoreIsTakenBetweenTheSameCairns() {
        Bounds.run("stretch 1 1 0 0 = 0", "stretch 1 1 0 0 = 1", "stretch 10 1 0 0 = 2", "count 0 = 3");
    }

    // ---- promise 3

    static void p03_stretchIsOneThatThereIs() {
        Bounds.refused(States.FRESH, BAD, "told 0 0", "told -1 0");
        Bounds.refused(States.BUSY, BAD, "told -1 0", "told 6 0", "told MIN 0", "told MAX 0");
        Bounds.leaves(States.BUSY, States.BUSY, "told 5 2", 3);
        Bounds.refused(States.FULL, BAD, "told 16 0");
        Bounds.leaves(States.FULL, States.FULL, "told 15 2", 99);
    }

    static void p03_whatIs0To12() {
        Bounds.refused(States.BUSY, BAD, "told 0 -1", "told 0 13", "told 0 MIN", "told 0 MAX");
        Bounds.run("stretch 83 21 52 2", "told 0 0 = 8", "told 0 12 = 10");
        for (int what = 0; what <= 12; what++) {
            Bounds.must(Views.difference(States.BUSY.plus("told 0 " + what), States.BUSY) == null, "told changes nothing");
        }
    }

    private static void effortIs(int kind, int length, int ground, int width, int effort) {
        Bounds.runFrom(ofKind(kind, length, ground), "set 0 5 " + width, "told 0 8 = " + kind, "told 0 9 = " + effort);
    }

    static void p03_effortLeastAndGreatest() {
        int[] least = {10, 10, 9, 8, 4}, greatest = {2880, 2925, 2781, 2727, 1390};
        for (int kind = 0; kind < 5; kind++) {
            effortIs(kind, 1, 0, 1, least[kind]);
            effortIs(kind, 99, 92, 9999, greatest[kind]);
        }
    }

    static void p03_effortHasACutTenthOfWidth() {
        int[][] widths = {{9, 10}, {10, 11}, {19, 11}, {20, 12}, {99, 19}, {100, 20}};
        for (int[] w : widths) effortIs(0, 1, 0, w[0], w[1]);
    }

    static void p03_effortOfBoardsIsACutHalf() {
        effortIs(4, 1, 0, 10, 5);
        effortIs(4, 1, 0, 20, 5);
        effortIs(4, 1, 0, 30, 6);
        // Drained: 7 * 14 and 1, less 7: 92, 93 behind the next ten of width.
        effortIs(4, 7, 40, 10, 46);
        effortIs(4, 7, 40, 20, 46);
        effortIs(4, 7, 40, 30, 47);
    }

    static void p03_effortOfStepsOnTheLevelIsNoMore() {
        effortIs(1, 9, 0, 9, 90);
        effortIs(1, 9, 10, 9, 104);
    }

    private static void wearIs(Script from, int boots, int rain, int wear) {
        Bounds.runFrom(from, "trip 1 " + boots, "rain 1 " + rain, "told 0 10 = " + boots, "told 0 11 = " + wear);
    }

    static void p03_wearByBootsIsCutByHundreds() {
        int[][] cases = {{0, 0, 0}, {0, 99, 0}, {0, 100, 1}, {0, 199, 1}, {0, 200, 2}, {0, 9999, 99}, {1, 49, 0}, {1, 50, 1},
            {2, 24, 0}, {2, 25, 1}, {90, 9, 0}, {90, 10, 1}, {92, 2, 0}, {92, 3, 1}, {92, 9999, 3999}};
        for (int[] c : cases) wearIs(ofKind(0, 5, c[0]), c[1], 0, c[2]);
    }

    static void p03_wearByRainIsCutByTens() {
        int[][] cases = {{0, 20, 0}, {10, 9, 0}, {10, 10, 1}, {10, 19, 1}, {10, 20, 2}, {90, 1, 0}, {90, 2, 1}, {90, 20, 18},
            {30, 3, 0}, {30, 4, 1}};
        for (int[] c : cases) wearIs(ofKind(0, 5, c[0]), 0, c[1], c[2]);
    }

    static void p03_wearCutsBootsAndRainApart() {
        wearIs(ofKind(0, 5, 10), 49, 9, 0);
        wearIs(ofKind(0, 5, 10), 50, 9, 1);
        wearIs(ofKind(0, 5, 10), 49, 10, 1);
    }

    static void p03_wearGreatest() {
        Bounds.runFrom(ofKind(0, 99, 92), "12 * trip 1 9999", "rain 1 20", "set 0 5 9999", "told 0 10 = 119988",
            "told 0 11 = " + (47995 + 18 + 333));
    }

    /** On the level, on rock, what hundreds of boots wear of a plain stretch is their number. */
    private static void wearOfKind(int kind, int rain, int[]... cases) {
        for (int[] c : cases) wearIs(ofKind(kind, 5, 0), 100 * c[0], rain, c[1]);
    }

    static void p03_wearOfStepsIsACutQuarter() {
        wearOfKind(1, 5, new int[][] {{0, 0}, {3, 0}, {4, 1}, {7, 1}, {8, 2}});
    }

    static void p03_wearOfPitchedIsACutHalfOfTheCutQuarter() {
        wearOfKind(3, 5, new int[][] {{0, 0}, {7, 0}, {8, 1}, {15, 1}, {16, 2}});
    }

    static void p03_wearOfDrainedIs0AtLeast() {
        wearOfKind(2, 5, new int[][] {{0, 0}, {4, 0}, {5, 0}, {6, 1}});
        wearOfKind(2, 20, new int[][] {{19, 0}, {20, 0}, {21, 1}});
        wearOfKind(2, 0, new int[][] {{0, 0}, {1, 1}});
    }

    static void p03_wearOfBoardsIsACutThirdAnd1() {
        wearOfKind(4, 5, new int[][] {{0, 1}, {5, 1}, {7, 1}, {8, 2}, {10, 2}, {11, 3}});
        wearOfKind(4, 20, new int[][] {{0, 1}, {20, 1}, {22, 1}, {23, 2}});
    }

    static void p03_bareIsWhatIsWiderThan60() {
        int[] wears = {0, 0, 0, 0, 1};
        for (int kind = 0; kind < 5; kind++) {
            int w = wears[kind];
            Bounds.runFrom(ofKind(kind, 5, 0), "set 0 5 1", "told 0 11 = " + w, "set 0 5 60", "told 0 11 = " + w,
                "set 0 5 61", "told 0 11 = " + (w + 2), "set 0 5 89", "told 0 11 = " + (w + 2), "set 0 5 90",
                "told 0 11 = " + (w + 3), "set 0 5 9989", "told 0 11 = " + (w + 332), "set 0 5 9990",
                "told 0 11 = " + (w + 333), "set 0 5 9999", "told 0 11 = " + (w + 333));
        }
    }

    private static void holdsIs(int kind, int length, int ground, int holds) {
        Bounds.runFrom(ofKind(kind, length, ground), "told 0 12 = " + holds);
    }

    static void p03_holdsLeastAndGreatest() {
        int[] flatRock = {25, 35, 25, 35, 24}, steepPeat = {2, 12, -37, 12, -61};
        for (int kind = 0; kind < 5; kind++) {
            holdsIs(kind, 1, 0, flatRock[kind]);
            holdsIs(kind, 99, 92, steepPeat[kind]);
        }
    }

    static void p03_holdsIs5MoreOnRockAlone() {
        holdsIs(0, 1, 0, 25);
        holdsIs(0, 1, 1, 20);
        holdsIs(0, 1, 2, 20);
        holdsIs(0, 1, 90, 7);
        holdsIs(0, 1, 91, 2);
    }

    static void p03_holdsOfDrainedLosesNoLessThan0() {
        // On peat: (slope and 1) times 4, half of slope, less 5: 4 and 0 on the level, 8 on slope 1.
        holdsIs(2, 1, 2, 20);
        holdsIs(2, 1, 12, 18 - 3);
    }

    static void p03_holdsOfDrainedAndBoardsOnEachGround() {
        for (int slope = 0; slope <= 9; slope++) {
            for (int soil = 0; soil <= 2; soil++) {
                int plain = 20 - 2 * slope + (soil == 0 ? 5 : 0);
                int drained = Math.max(0, (slope + 1) * (1 << soil) + slope / 2 - 5);
                holdsIs(2, 1, 10 * slope + soil, plain - drained);
                holdsIs(4, 1, 10 * slope + soil, plain - (drained / 3 + 1));
            }
        }
    }

    static void p03_holdsOfBoardsLosesACutHalfOfLength() {
        holdsIs(4, 1, 92, -12);
        holdsIs(4, 2, 92, -13);
        holdsIs(4, 3, 92, -13);
        holdsIs(4, 4, 92, -14);
    }

    static void p03_holdsKnowsNoBareNoBootsNoRainOfTheYear() {
        int[] holds = {2, 12, -37, 12, -61};
        for (int kind = 0; kind < 5; kind++) {
            Bounds.runFrom(ofKind(kind, 99, 92), "trip 1 9999", "rain 1 20", "set 0 5 9999", "told 0 12 = " + holds[kind]);
        }
    }

    static void p03_bootsOfWhatIsShutOrOffTheWayAre0() {
        Bounds.run("stretch 1 5 0 0", "told 0 10 = 0", "trip 1 0", "told 0 10 = 0", "trip 12 300", "told 0 10 = 0", "trip 10 9999",
            "told 0 10 = 9999", "set 0 7 1", "told 0 10 = 0", "told 0 11 = 0");
    }

    static void p03_inTheLastYearItsRainCounts() {
        // Pitched is due in 200, and never done: 500 boots on slope 3 of peat, rain 20.
        Bounds.runFrom(States.LAST, "told 0 11 = " + (80 + 6), "rain 200 0", "told 0 11 = 80");
    }

    // ---- promise 4

    static void p04_stretchIsOneThatThereIs() {
        Bounds.refused(States.FRESH, BAD, "as 0 0");
        Bounds.refused(States.BUSY, BAD, "as -1 0", "as 6 0", "as MIN 0", "as MAX 0");
        Script s = States.BUSY.plus("set 5 5 33");
        Bounds.leaves(s, s, "as 5 0", 33);
        Bounds.refused(States.FULL, BAD, "as 16 0");
        Script all = States.FULL.plus("set 15 5 34");
        Bounds.leaves(all, all, "as 15 0", 34);
    }

    static void p04_kindIs0To4() {
        Bounds.refusedAnywhere(BAD, "as 0 -1", "as 0 5", "as 0 MIN", "as 0 MAX");
    }

    static void p04_kindsUnderOneAnother() {
        String[] fits = {"0", "01", "02", "013", "024"};
        for (int kind = 0; kind < 5; kind++) {
            for (int asks = 0; asks < 5; asks++) {
                int want = fits[kind].indexOf('0' + asks) >= 0 ? 57 : KIND;
                Script from = ofKind(kind, 5, 0).plus("set 0 5 57");
                Bounds.leaves(from, from, "as 0 " + asks, want);
            }
        }
    }

    static void p04_badStandsAheadOfKind() {
        Bounds.refused(States.BUSY, BAD, "as 6 4", "as -1 1", "as 1 5");
        Bounds.refused(States.BUSY, KIND, "as 1 4", "as 1 1");
    }

    // ---- promise 5

    static void p05_widthIs1To9999() {
        Script one = new Script("stretch 1 5 0 0", "stretch 12 5 0 0");
        Bounds.runFrom(one, "set 0 5 1 = 10", "told 0 5 = 1", "set 0 5 9999 = 1", "told 0 5 = 9999", "set 0 5 9999 = 9999",
            "told 1 5 = 10");
        Bounds.refused(one, BAD, "set 0 5 0", "set 0 5 10000", "set 0 5 -1", "set 0 5 MIN", "set 0 5 MAX");
        for (Script from : new Script[] {States.BUSY, States.FULL, States.LAST}) Bounds.refused(from, BAD, "set 0 5 0", "set 0 5 10000");
    }

    static void p05_shutIs0Or1() {
        Script one = new Script("stretch 1 5 0 0", "stretch 12 5 0 0");
        Bounds.runFrom(one, "set 0 7 0 = 0", "set 0 7 1 = 0", "told 0 7 = 1", "set 0 7 1 = 1", "count 1 = 1", "set 0 7 0 = 1",
            "told 0 7 = 0", "told 1 7 = 0");
        Bounds.refused(one, BAD, "set 0 7 -1", "set 0 7 2", "set 0 7 MIN", "set 0 7 MAX");
        for (Script from : new Script[] {States.BUSY, States.FULL, States.LAST}) Bounds.refused(from, BAD, "set 0 7 -1", "set 0 7 2");
    }

    static void p05_whatIs5Or7() {
        for (int what = -1; what <= 13; what++) {
            if (what != 5 && what != 7) Bounds.refused(States.BUSY, BAD, "set 0 " + what + " 1");
        }
        Bounds.refused(States.BUSY, BAD, "set 0 MIN 1", "set 0 MAX 1");
    }

    static void p05_stretchIsOneThatThereIs() {
        Bounds.refused(States.FRESH, BAD, "set 0 5 5", "set 0 7 1");
        Bounds.refused(States.BUSY, BAD, "set -1 5 5", "set 6 5 5", "set 6 7 1", "set MIN 7 1", "set MAX 5 5");
        Bounds.runFrom(States.BUSY, "set 5 7 0 = 1");
        Bounds.refused(States.FULL, BAD, "set 16 5 5");
        Bounds.runFrom(States.FULL, "set 15 7 1 = 0");
    }

    // ---- promise 6

    static void p06_cairnsAre0To9AndUnlike() {
        for (int c = -25; c <= 125; c++) {
            String call = "trip " + c + " 1";
            if (areUnlikeCairns(c)) Bounds.run(call + " = 0", "stretch " + c + " 1 0 0", "told 0 10 = 1", "way 0 2 = 0");
            else Bounds.refused(States.FRESH, BAD, call);
        }
        Bounds.refusedAnywhere(BAD, "trip MIN 1", "trip MAX 1", "trip -1 1", "trip 100 1", "trip 0 1", "trip 99 1", "trip -12 1");
    }

    static void p06_bootsAre0To9999() {
        Bounds.run("stretch 1 1 0 0", "trip 1 0 = 0", "told 0 10 = 0", "trip 1 9999 = 1", "told 0 10 = 9999");
        Bounds.refusedAnywhere(BAD, "trip 1 -1", "trip 1 10000", "trip 1 MIN", "trip 1 MAX");
    }

    static void p06_twelveAtMostNumberedFrom0() {
        Script s = new Script("stretch 1 1 0 0");
        for (int i = 0; i < 12; i++) s = s.plus("trip 1 " + (1 << i % 10) + " = " + i);
        HillPaths x = new HillPaths();
        for (Script.Call c : s.calls) if (c.want != null) Bounds.due(c.line, c.on(x), c.want);
        Bounds.refused(s, FULL, "trip 1 0", "trip 98 9999");
        Bounds.refused(States.FULL, FULL, "trip 1 0");
    }

    static void p06_badStandsAheadOfFull() {
        Bounds.refused(States.FULL, BAD, "trip 11 1", "trip 1 10000", "trip 100 -1");
    }

    // ---- promise 7

    static void p07_tripIsOneThatThereIs() {
        Bounds.refused(States.FRESH, BAD, "boots 0 1", "boots -1 1");
        Bounds.refused(States.BUSY, BAD, "boots -1 1", "boots 5 1", "boots MIN 1", "boots MAX 1");
        Bounds.runFrom(States.BUSY, "boots 4 1 = 55");
        Bounds.refused(States.FULL, BAD, "boots 12 1");
        Bounds.runFrom(States.FULL, "boots 11 1 = 1200", "boots 0 1 = 100");
    }

    static void p07_bootsAre0To9999() {
        Bounds.run("stretch 1 1 0 0", "trip 1 40", "boots 0 0 = 40", "told 0 10 = 0", "boots 0 9999 = 0", "told 0 10 = 9999",
            "boots 0 9999 = 9999");
        Bounds.refused(States.BUSY, BAD, "boots 0 -1", "boots 0 10000", "boots 0 MIN", "boots 0 MAX");
        Bounds.refused(States.FULL, BAD, "boots 0 -1", "boots 0 10000");
    }

    // ---- promise 8

    static void p08_tripIsOneThatThereIs() {
        Bounds.refused(States.FRESH, BAD, "way 0 0", "way -1 0");
        Bounds.refused(States.BUSY, BAD, "way -1 0", "way 5 0", "way MIN 0", "way MAX 0");
        Bounds.leaves(States.BUSY, States.BUSY, "way 4 0", NONE);
        Bounds.refused(States.FULL, BAD, "way 12 0");
        Bounds.run("stretch 1 1 0 0", "11 * trip 12 5", "trip 1 5 = 11", "way 11 2 = 0", "way 12 2 = BAD");
    }

    static void p08_whatIs0OrMore() {
        Bounds.refused(States.BUSY, BAD, "way 0 -1", "way 0 MIN", "way 0 NONE");
        Bounds.refused(States.BUSY, NONE, "way 0 MAX");
    }

    static void p08_behindTheLastStretchThereIsNone() {
        Bounds.run("stretch 1 1 0 0", "trip 1 0", "way 0 1 = 1", "way 0 2 = 0", "way 0 3 = NONE", "way 0 4 = NONE", "way 0 MAX = NONE");
    }

    static void p08_theLongestWayHasNineStretches() {
        Script s = new Script();
        for (int i = 0; i < 9; i++) s = s.plus("stretch " + (i * 10 + i + 1) + " 99 92 0", "set " + i + " 5 9999");
        s = s.plus("trip 9 1", "trip 90 1");
        Bounds.runFrom(s, "way 0 0 = " + 9 * 2880, "way 0 1 = 9", "way 0 2 = 0", "way 0 10 = 8", "way 0 11 = NONE",
            "way 1 0 = " + 9 * 2880, "way 1 1 = 9", "way 1 2 = 8", "way 1 10 = 0", "way 1 11 = NONE");
    }

    static void p08_withoutAWayAllIsNone() {
        Bounds.run("trip 1 5", "way 0 0 = NONE", "way 0 1 = NONE", "way 0 2 = NONE", "way 0 MAX = NONE", "stretch 12 1 0 0",
            "way 0 0 = NONE", "stretch 1 1 0 0", "way 0 0 = 11", "set 1 7 1", "way 0 0 = NONE", "set 1 7 0", "way 0 1 = 1");
    }

    static void p08_badStandsAheadOfNone() {
        Bounds.refused(States.BUSY, BAD, "way 4 -1", "way 5 0");
        Bounds.refused(States.BUSY, NONE, "way 4 0", "way 4 1", "way 4 2");
    }

    static void p08_leastEffortByOne() {
        // 80 by two, 81 or 80 by one.
        Script s = new Script("stretch 1 4 0 0", "stretch 12 4 0 0", "stretch 2 8 0 0", "set 0 5 9", "set 1 5 9", "trip 2 1");
        Bounds.runFrom(s, "way 0 0 = 80", "way 0 1 = 2", "set 2 5 9", "way 0 0 = 80", "way 0 1 = 1", "way 0 2 = 2", "set 2 5 10",
            "way 0 1 = 2", "set 0 5 10", "way 0 0 = 81", "way 0 1 = 1");
    }

    static void p08_fewestStretchesStandAheadOfNumbers() {
        Bounds.run("stretch 1 4 0 0", "stretch 12 4 0 0", "stretch 2 8 0 0", "set 0 5 9", "set 1 5 9", "set 2 5 9", "trip 2 1",
            "way 0 1 = 1", "way 0 2 = 2");
    }

    static void p08_thenTheFirstByNumbersOneByOne() {
        // 0 to 3 by 1 (stretches 2, 0) or by 2 (1, 3): from 0 on 1 stands ahead of 2; from 3 on 0 ahead of 3.
        Bounds.run("stretch 13 4 0 0", "stretch 2 4 0 0", "stretch 1 4 0 0", "stretch 23 4 0 0", "trip 3 1", "trip 30 1",
            "way 0 2 = 1", "way 0 3 = 3", "way 1 2 = 0", "way 1 3 = 2");
        // The first is like: the second one decides.
        Bounds.run("stretch 1 4 0 0", "stretch 12 4 0 0", "stretch 12 4 0 0", "trip 2 1", "way 0 2 = 0", "way 0 3 = 1", "set 1 7 1",
            "way 0 3 = 2");
    }

    // ---- promise 9

    static void p09_bothAreStretchesThatThereAre() {
        Bounds.refused(States.FRESH, BAD, "without 0 0");
        Bounds.refused(States.BUSY, BAD, "without -1 0", "without 6 0", "without 0 -1", "without 0 6", "without MIN 0", "without 0 MIN",
            "without MAX 0", "without 0 MAX", "without 0 NONE");
        Bounds.refused(States.FULL, BAD, "without 16 0", "without 0 16");
        Bounds.leaves(States.FULL, States.FULL, "without 15 15", 0);
    }

    static void p09_ofItselfThereAreNone() {
        Bounds.run("stretch 1 1 0 0", "trip 1 9999", "without 0 0 = 0", "told 0 7 = 0", "told 0 10 = 9999");
    }

    static void p09_whatIsShutStaysShut() {
        Script s = new Script("stretch 1 1 0 0", "stretch 1 2 0 0", "trip 1 70", "set 0 7 1");
        Bounds.leaves(s, s, "without 0 1", 0);
        Bounds.leaves(s, s, "without 1 0", 70);
        Bounds.leaves(s, s, "without 1 1", 0);
    }

    static void p09_nothingIsShutByIt() {
        for (int i = 0; i < 6; i++) {
            Bounds.must(Views.difference(States.BUSY.plus("without 0 " + i), States.BUSY) == null, "without changes nothing");
        }
    }

    // ---- promise 10

    static void p10_yearIs0To200() {
        Bounds.run("rain 0 7 = 5", "rain 0 8 = 7", "rain 200 9 = 5", "rain 200 10 = 9", "rain 199 1 = 5", "rain 1 1 = 5");
        Bounds.refusedAnywhere(BAD, "rain -1 5", "rain 201 5", "rain MIN 5", "rain MAX 5");
    }

    static void p10_rainIs0To20() {
        Bounds.run("rain 3 0 = 5", "rain 3 20 = 0", "rain 3 20 = 20");
        Bounds.refusedAnywhere(BAD, "rain 0 -1", "rain 0 21", "rain 0 MIN", "rain 0 MAX");
    }

    static void p10_ofYearsThatAreGoneToo() {
        Bounds.run("run 3", "rain 0 9 = 5", "rain 0 5 = 9", "rain 2 9 = 5");
        Bounds.runFrom(States.LAST, "rain 0 9 = 5", "rain 199 9 = 5", "rain 200 9 = 20");
    }

    // ---- promise 11

    static void p11_nIs1To20() {
        Bounds.run("run 1 = 1", "run 20 = 21");
        Bounds.refusedAnywhere(BAD, "run 0", "run 21", "run -1", "run MIN", "run MAX");
    }

    static void p11_theYearIs200AtMost() {
        Script s = new Script("stretch 1 1 92 0", "trip 1 9999", "donor 190 7", "9 * run 20");
        Bounds.runFrom(s, "run 20 = 200", "run 1 = FULL", "count 14 = 200");
        Bounds.refused(s.plus("run 1"), FULL, "run 20");
        Bounds.runFrom(s.plus("run 1"), "run 19 = 200");
        Bounds.refused(s.plus("run 19"), FULL, "run 2");
        Bounds.runFrom(s.plus("run 19"), "run 1 = 200");
        Bounds.refused(States.LAST, FULL, "run 1", "run 20");
    }

    static void p11_badStandsAheadOfFull() {
        Bounds.refused(States.LAST, BAD, "run 0", "run 21");
    }

    static void p11_widthIs9999AtMost() {
        // Bare alone: 9676 and 322 is 9998, 9677 and 322 is 9999.
        Bounds.run("stretch 1 1 0 0", "set 0 5 9676", "run 1", "told 0 5 = 9998", "set 0 5 9677", "run 1", "told 0 5 = 9999",
            "set 0 5 9678", "run 1", "told 0 5 = 9999", "run 20", "told 0 5 = 9999");
        Bounds.run("stretch 1 1 92 0", "12 * trip 1 9999", "rain 0 20", "set 0 5 1", "run 1", "told 0 5 = 9999");
    }

    static void p11_aMendMakes12IfItWasMore() {
        for (int[] w : new int[][] {{1, 1}, {11, 11}, {12, 12}, {13, 12}, {60, 12}, {9999, 12}}) {
            Bounds.run("stretch 1 1 0 0", "law 'price 0' 0 0", "set 0 5 " + w[0], "mend 0 1 0", "run 1", "told 0 5 = " + w[1],
                "told 0 8 = 1");
        }
        // What the same year wears comes ahead of it.
        Bounds.run("stretch 1 1 0 0", "law 'price 0' 0 0", "trip 1 100", "set 0 5 11", "mend 0 1 0", "run 1", "told 0 5 = 12");
        Bounds.run("stretch 1 1 0 0", "law 'price 0' 0 0", "trip 1 100", "set 0 5 12", "mend 0 1 0", "run 1", "told 0 5 = 12");
    }

    static void p11_mendsAndGiftsComeInTheirYear() {
        Bounds.run("stretch 1 1 0 0", "law 'price 0' 0 0", "mend 0 2 1", "donor 1 30", "donor 0 4", "run 1", "told 0 8 = 0", "count 11 = 4",
            "mendTold 0 3 = 0", "run 1", "told 0 8 = 2", "count 11 = 34", "mendTold 0 3 = 1", "run 20", "count 11 = 34");
    }

    static void p11_bootsAreFoundAsTheYearBegins() {
        // Two like ones: 0 is worn to more effort in the first year, 1 in the second, none in between.
        Bounds.run("stretch 1 1 0 0", "stretch 1 1 0 0", "trip 1 1000", "run 1", "told 0 5 = 20", "told 1 5 = 10", "run 1",
            "told 0 5 = 20", "told 1 5 = 20");
        // The mend of a year does not send boots elsewhere in that year.
        Bounds.run("stretch 1 1 90 0", "stretch 1 1 90 0", "law 'price 0' 0 0", "trip 1 100", "rain 0 0", "mend 1 3 0", "run 1",
            "told 0 5 = 20", "told 1 5 = 10", "told 1 8 = 3");
    }

    static void p11_manyYearsAreAsOneByOne() {
        Bounds.must(Views.difference(States.BUSY.plus("run 20"), States.BUSY.plus("20 * run 1")) == null, "20 years are 20 times one");
        Bounds.must(Views.difference(States.FULL.plus("run 9"), States.FULL.plus("9 * run 1")) == null, "9 years are 9 times one");
    }

    static void p11_theGreatestPurse() {
        Bounds.run("12 * donor 0 99999", "run 1", "count 11 = 1199988", "run 20", "count 11 = 1199988");
    }

    // ---- promise 12

    static void p12_nIs1To20() {
        Bounds.run("stretch 1 1 0 0", "trip 1 100", "lost 1 = 1", "lost 20 = 20");
        Bounds.refusedAnywhere(BAD, "lost 0", "lost 21", "lost -1", "lost MIN", "lost MAX");
    }

    static void p12_theYearWouldBe200AtMost() {
        Script s = new Script("stretch 1 1 0 0", "9 * run 20", "trip 1 100");
        Bounds.leaves(s, s, "lost 20", 20);
        Bounds.refused(s.plus("run 1"), FULL, "lost 20");
        Bounds.leaves(s.plus("run 19"), s.plus("run 19"), "lost 1", 1);
        Bounds.refused(s.plus("run 19"), FULL, "lost 2");
        Bounds.refused(States.LAST, FULL, "lost 1", "lost 20");
    }

    static void p12_badStandsAheadOfFull() {
        Bounds.refused(States.LAST, BAD, "lost 0", "lost 21");
    }

    static void p12_nothingGoesBy() {
        for (int n : new int[] {1, 5, 20}) {
            Bounds.must(Views.difference(States.BUSY.plus("lost " + n), States.BUSY) == null, "lost changes nothing");
            Bounds.must(Views.difference(States.FULL.plus("lost " + n), States.FULL) == null, "lost changes nothing");
        }
    }

    static void p12_noneWiderThan9999() {
        Bounds.run("stretch 1 1 92 0", "trip 1 9999", "lost 1 = 4003", "lost 2 = " + (4003 + 4003 + 133), "lost 3 = 9989", "lost 20 = 9989", "set 0 5 9999",
            "lost 1 = 0", "lost 20 = 0", "set 0 5 9998", "lost 1 = 1");
    }

    static void p12_belowNothingByMends() {
        Bounds.run("stretch 1 1 0 0", "law 'price 0' 0 0", "set 0 5 9999", "mend 0 1 1", "lost 1 = 0", "lost 2 = " + (12 - 9999),
            "lost 20 = " + (12 - 9999), "told 0 5 = 9999");
    }
}
