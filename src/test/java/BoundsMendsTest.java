/** Boundary cases of promises 21 to 29: mends, the choice, donors, loads and flights. */
public final class BoundsMendsTest {
    private static final int BAD = HillPaths.BAD, NO = HillPaths.NO, FULL = HillPaths.FULL;

    /** A level stretch of length 10 on rock: mends of it cost 200, 300, 400, 500. */
    private static final Script ONE = new Script("stretch 1 10 0 0");

    public static void main(String[] args) {
        Bounds.go(BoundsMendsTest.class, 21, 29);
    }

    private static Script withCoins(int coins) {
        return new Script("stretch 1 10 0 0", "stretch 12 10 0 0", "donor 0 " + coins, "run 1");
    }

    // ---- promise 21

    static void p21_stretchIsOneThatThereIs() {
        Bounds.refused(States.FRESH, BAD, "mend 0 1 0");
        Bounds.refused(States.BUSY, BAD, "mend -1 1 5", "mend 6 1 5", "mend MIN 1 5", "mend MAX 1 5");
        Bounds.refused(States.FULL, BAD, "mend 16 1 5");
        Bounds.runFrom(withCoins(9999), "mend 1 1 1 = 0", "mendTold 0 0 = 1", "mend 2 1 1 = BAD", "mend 0 1 1 = 1");
    }

    static void p21_kindIs1To4() {
        Script s = withCoins(9999);
        Bounds.runFrom(s, "mend 0 1 1 = 0", "mend 1 4 1 = 1", "mendTold 0 1 = 1", "mendTold 1 1 = 4");
        Bounds.refused(s, BAD, "mend 0 0 1", "mend 0 5 1", "mend 0 -1 1", "mend 0 MIN 1", "mend 0 MAX 1");
        Bounds.refused(States.FULL, BAD, "mend 0 0 5", "mend 0 5 5");
    }

    static void p21_yearIsTheOpenOneTo200() {
        Script s = withCoins(9999).plus("run 4");
        Bounds.runFrom(s, "mend 0 1 5 = 0", "mend 1 1 200 = 1", "mendTold 0 2 = 5", "mendTold 1 2 = 200");
        Bounds.refused(s, BAD, "mend 0 1 4", "mend 0 1 201", "mend 0 1 0", "mend 0 1 -1", "mend 0 1 MIN", "mend 0 1 MAX");
        Bounds.run("stretch 1 1 0 0", "law 'price 0' 0 0", "mend 0 1 -1 = BAD", "mend 0 1 0 = 0");
    }

    static void p21_inTheLastYear() {
        Bounds.refused(States.LAST, BAD, "mend 1 1 199", "mend 1 1 201");
        Bounds.runFrom(States.LAST, "mend 1 1 200 = 1", "count 5 = 2", "count 11 = 620");
    }

    static void p21_asManyCoinsAsThePrice() {
        Bounds.refused(withCoins(199), NO, "mend 0 1 1", "mend 0 4 1");
        Bounds.runFrom(withCoins(200), "mend 0 1 1 = 0", "count 11 = 0");
        Bounds.runFrom(withCoins(201), "mend 0 1 1 = 0", "count 11 = 1");
        Bounds.refused(withCoins(499), NO, "mend 0 4 1");
        Bounds.runFrom(withCoins(500), "mend 0 4 1 = 0", "count 11 = 0");
    }

    static void p21_thePurseIsEmptyAtFirst() {
        Bounds.refused(ONE, NO, "mend 0 1 0", "mend 0 4 200");
        Bounds.runFrom(ONE, "law 'price 1' 0 0", "mend 0 1 0 = NO", "law 'price 0' 0 0", "mend 0 1 0 = 0", "count 11 = 0");
        // A price below 0 is held at 0: nothing comes into the purse.
        Bounds.runFrom(ONE, "law 'price 0-50' 0 0", "mend 0 1 0 = 0", "count 11 = 0");
    }

    static void p21_theGreatestPrice() {
        Script s = new Script("stretch 1 10 0 0", "law 'price 9999*9999' 0 0", "donor 0 99999", "run 1");
        Bounds.runFrom(s, "mend 0 1 1 = 0", "count 11 = 0");
        Script less = new Script("stretch 1 10 0 0", "law 'price 9999*9999' 0 0", "donor 0 99998", "run 1");
        Bounds.refused(less, NO, "mend 0 1 1");
    }

    static void p21_leaveIsWhatIsNot0() {
        Script s = withCoins(9999);
        Bounds.refused(s.plus("law 'leave 0' 0 0"), NO, "mend 0 1 1", "mend 1 4 200");
        Bounds.refused(s.plus("law 'leave 2048*1024*1024*2' 0 0"), NO, "mend 0 1 1");
        Bounds.runFrom(s, "law 'leave 0-1' 0 0", "mend 0 1 1 = 0", "law 'leave k=4' 0 0", "mend 1 3 1 = NO", "mend 1 4 1 = 1");
        // Leave that begins later does not count yet.
        Bounds.runFrom(s, "law 'leave 0' 0 2", "mend 0 1 1 = 0", "run 1", "mend 1 1 2 = NO");
    }

    static void p21_noOtherOfItWaits() {
        Script s = withCoins(9999).plus("mend 0 1 1");
        Bounds.refused(s, NO, "mend 0 1 1", "mend 0 4 1", "mend 0 1 200");
        Bounds.runFrom(s, "mend 1 1 1 = 1", "run 1", "mend 0 1 2 = 2", "mend 0 1 2 = NO");
    }

    static void p21_twentyAtMostNumberedFrom0() {
        Script s = new Script("stretch 1 10 0 0", "law 'price 0' 0 0");
        for (int i = 0; i < 20; i++) s = s.plus("mend 0 1 " + i + " = " + i, "run 1");
        HillPaths x = new HillPaths();
        for (Script.Call c : s.calls) {
            int got = c.on(x);
            if (c.want != null) Bounds.due(c.line, got, c.want);
        }
        Bounds.due("count(4)", x.count(4), 20);
        Bounds.due("count(5)", x.count(5), 0);
        Bounds.refused(s, FULL, "mend 0 1 20", "mend 0 4 200");
    }

    static void p21_fullStandsAheadOfNo() {
        // In FULL a mend of each stretch waits; in the year behind, owner 0 gives no leave for kind 3.
        Bounds.refused(States.FULL, FULL, "mend 0 1 1", "mend 15 4 200");
        Bounds.refused(States.FULL.plus("run 1"), FULL, "mend 4 3 2");
        Bounds.runFrom(States.FULL.plus("run 1"), "rule 4 0 3 = 0");
        Script poor = new Script("stretch 1 10 0 0", "law 'price 0' 0 0");
        for (int i = 0; i < 20; i++) poor = poor.plus("mend 0 1 " + i, "run 1");
        Bounds.refused(poor.plus("law 'price 5' 0 0"), FULL, "mend 0 1 20");
    }

    static void p21_badStandsAheadOfFullAndNo() {
        Bounds.refused(States.FULL, BAD, "mend 0 1 0", "mend 0 1 201", "mend 0 0 5", "mend -1 1 5");
        Bounds.refused(ONE, BAD, "mend 0 1 201", "mend 0 5 0");
    }

    static void p21_whatIsRefusedCostsNothing() {
        Script s = withCoins(450).plus("mend 0 1 1");
        Bounds.refused(s, NO, "mend 0 1 1", "mend 1 2 1");
        Bounds.runFrom(s, "mend 1 2 1 = NO", "mend 0 1 1 = NO", "count 11 = 250", "mend 1 1 1 = 1", "count 11 = 50");
    }

    // ---- promise 22

    static void p22_mendIsOneThatThereIs() {
        Bounds.refused(States.FRESH, BAD, "mendTold 0 0", "mendTold -1 0");
        Bounds.refused(States.BUSY, BAD, "mendTold -1 0", "mendTold 3 0", "mendTold MIN 0", "mendTold MAX 0");
        Bounds.leaves(States.BUSY, States.BUSY, "mendTold 2 0", 1);
        Bounds.refused(States.FULL, BAD, "mendTold 20 0");
        Bounds.leaves(States.FULL, States.FULL, "mendTold 19 2", 200);
    }

    static void p22_whatIs0To3() {
        Bounds.leaves(States.BUSY, States.BUSY, "mendTold 0 0", 0);
        Bounds.leaves(States.BUSY, States.BUSY, "mendTold 0 3", 1);
        Bounds.leaves(States.BUSY, States.BUSY, "mendTold 1 3", 0);
        Bounds.refused(States.BUSY, BAD, "mendTold 0 -1", "mendTold 0 4", "mendTold 0 MIN", "mendTold 0 MAX");
    }

    static void p22_whatIsDueIn200IsNeverDone() {
        Bounds.runFrom(States.LAST, "mendTold 0 3 = 0", "run 1 = FULL", "mendTold 0 3 = 0", "told 0 8 = 0");
        Bounds.run("stretch 1 1 0 0", "law 'price 0' 0 0", "mend 0 1 199", "9 * run 20", "run 19", "mendTold 0 3 = 0", "run 1", "mendTold 0 3 = 1");
    }

    // ---- promise 23

    static void p23_stretchIsOneThatThereIs() {
        Bounds.refused(States.FRESH, BAD, "worth 0 1 1");
        Bounds.refused(States.BUSY, BAD, "worth -1 1 1", "worth 6 1 1", "worth MIN 1 1", "worth MAX 1 1");
        Bounds.refused(States.FULL, BAD, "worth 16 1 1");
    }

    static void p23_kindIs1To4() {
        for (Script from : new Script[] {States.BUSY, States.FULL, States.LAST}) {
            Bounds.refused(from, BAD, "worth 0 0 1", "worth 0 5 1", "worth 0 -1 1", "worth 0 MIN 1", "worth 0 MAX 1");
        }
        Bounds.runFrom(ONE, "trip 1 1000", "worth 0 1 1 = 8", "worth 0 4 1 = 8");
    }

    static void p23_nIs1To30() {
        for (Script from : new Script[] {States.BUSY, States.FULL, States.LAST}) {
            Bounds.refused(from, BAD, "worth 0 1 0", "worth 0 1 31", "worth 0 1 -1", "worth 0 1 MIN", "worth 0 1 MAX");
        }
        // 100 boots wear a plain one by 1 a year, steps by nothing: 11 to 40, never bare.
        Bounds.runFrom(ONE, "trip 1 100", "worth 0 1 1 = 1", "worth 0 1 30 = 30");
    }

    static void p23_asWideAs12IfItIsMore() {
        Script s = ONE.plus("trip 1 1000");
        Bounds.runFrom(s, "set 0 5 11", "worth 0 1 1 = 8", "set 0 5 12", "worth 0 1 1 = 8", "set 0 5 13", "worth 0 1 1 = 9", "set 0 5 60",
            "worth 0 1 1 = 56", "set 0 5 61", "worth 0 1 1 = 59");
    }

    static void p23_neverWiderThan9999() {
        Bounds.runFrom(ONE, "set 0 5 9999", "worth 0 1 1 = 9987", "worth 0 1 30 = 9987", "set 0 5 9998", "worth 0 1 1 = 9987", "set 0 5 9676",
            "worth 0 1 1 = " + (9998 - 12));
        // Both grow to 9999 in these years: no worth.
        Bounds.run("stretch 1 10 92 0", "12 * trip 1 9999", "worth 0 1 1 = 0", "worth 0 2 30 = 0", "worth 0 3 1 = " + (9999 - 10 - 5999));
    }

    static void p23_belowNothing() {
        Bounds.runFrom(ONE, "worth 0 4 1 = -1", "worth 0 4 30 = -30", "worth 0 1 30 = 0", "worth 0 2 30 = 0", "worth 0 3 30 = 0");
    }

    static void p23_bootsAndRainOfTheOpenYear() {
        // Slope 9: rain 5 wears by 4 a year; that of other years does not count.
        Script s = new Script("stretch 1 10 90 0", "rain 1 20");
        Bounds.runFrom(s, "worth 0 1 2 = " + (8 - 2), "rain 0 20", "worth 0 1 2 = " + (36 - 8), "run 1", "set 0 5 10", "rain 1 0", "worth 0 1 2 = 0");
        // In the last year, too: 2 a year on gravel, 12 to 62 in 25 years, then bare, 4 a year.
        Bounds.runFrom(States.LAST, "set 1 5 12", "boots 0 100", "worth 1 1 25 = 50", "worth 1 1 30 = 70");
    }

    static void p23_nothingIsDone() {
        for (int kind = 1; kind <= 4; kind++) {
            Bounds.must(Views.difference(States.BUSY.plus("worth 3 " + kind + " 9"), States.BUSY) == null, "worth changes nothing");
        }
    }

    // ---- promise 24

    static void p24_stretchIsOneThatThereIs() {
        Bounds.refused(States.FRESH, BAD, "choose 0", "choose -1");
        Bounds.refused(States.BUSY, BAD, "choose -1", "choose 6", "choose MIN", "choose MAX");
        Bounds.runFrom(new Script("16 * stretch 1 1 0 0"), "choose 15 = 1", "choose 16 = BAD", "choose 0 = 2");
    }

    static void p24_onceAlone() {
        Bounds.refused(States.BUSY, NO, "choose 0", "choose 1", "choose 3", "choose 5");
        Bounds.runFrom(States.BUSY, "choose 2 = 5");
    }

    static void p24_sixAtMost() {
        Script s = new Script("8 * stretch 1 1 0 0", "choose 7", "choose 6", "choose 5", "choose 4", "choose 3");
        Bounds.runFrom(s, "choose 2 = 6", "count 6 = 6");
        Bounds.refused(s.plus("choose 2"), FULL, "choose 0", "choose 1");
    }

    static void p24_noStandsAheadOfFull() {
        Bounds.refused(States.FULL, NO, "choose 0", "choose 10");
        Bounds.refused(States.FULL, FULL, "choose 1", "choose 15");
    }

    static void p24_badStandsAheadOfFull() {
        Bounds.refused(States.FULL, BAD, "choose 16", "choose -1");
    }

    // ---- promise 25

    static void p25_nIs1To30() {
        Bounds.refusedAnywhere(BAD, "choice 0 0 0", "choice 31 0 0", "choice -1 0 0", "choice MIN 0 0", "choice MAX 0 0");
        // Steps: 1 a year of worth, for 200.
        Bounds.runFrom(ONE, "trip 1 100", "choose 0", "choice 1 200 0 = 1", "choice 30 200 0 = 30");
    }

    static void p25_coinsAre0To999999() {
        Bounds.refusedAnywhere(BAD, "choice 1 -1 0", "choice 1 1000000 0", "choice 1 MIN 0", "choice 1 MAX 0");
        Bounds.runFrom(ONE, "trip 1 100", "choose 0", "choice 1 0 0 = 0", "choice 1 999999 0 = 1");
    }

    static void p25_whatIs0To1AndThoseTold() {
        Bounds.refusedAnywhere(BAD, "choice 1 0 -1", "choice 1 0 8", "choice 1 0 MIN", "choice 1 0 MAX");
        Bounds.refused(States.FRESH, BAD, "choice 1 0 2");
        Bounds.leaves(States.FRESH, States.FRESH, "choice 1 0 1", 0);
        Bounds.refused(ONE, BAD, "choice 1 0 2");
        Script told = ONE.plus("choose 0");
        Bounds.leaves(told, told, "choice 1 0 2", 0);
        Bounds.refused(told, BAD, "choice 1 0 3");
        Bounds.refused(States.BUSY, BAD, "choice 1 0 6");
        Bounds.leaves(States.BUSY, States.BUSY, "choice 1 0 5", 0);
        Bounds.runFrom(States.FULL, "choice 1 0 8 = BAD");
        Bounds.runFrom(told, "clear", "choice 1 0 2 = BAD");
    }

    static void p25_pricesAreTheCoinsAtMost() {
        // Worths of a year 8, 5, 9, 8 for 200, 300, 400, 500.
        Script s = ONE.plus("trip 1 1000", "choose 0");
        Bounds.runFrom(s, "choice 1 199 0 = 0", "choice 1 199 1 = 0", "choice 1 199 2 = 0", "choice 1 200 0 = 8", "choice 1 200 1 = 200",
            "choice 1 200 2 = 1", "choice 1 399 2 = 1", "choice 1 400 2 = 3", "choice 1 400 0 = 9", "choice 1 400 1 = 400",
            "choice 1 999999 2 = 3");
        Script two = s.plus("stretch 12 10 0 0", "trip 12 1000", "choose 1");
        Bounds.runFrom(two, "choice 1 399 0 = 8", "choice 1 399 2 = 0", "choice 1 399 3 = 1", "choice 1 400 0 = 16", "choice 1 799 0 = 17",
            "choice 1 799 1 = 600", "choice 1 800 0 = 18", "choice 1 800 1 = 800");
    }

    static void p25_withNoCoinsWhatCostsNothing() {
        Script s = ONE.plus("trip 1 1000", "choose 0", "law 'price 0' 0 0");
        Bounds.runFrom(s, "choice 1 0 0 = 9", "choice 1 0 1 = 0", "choice 1 0 2 = 3");
    }

    static void p25_theGreatestPrices() {
        Bounds.run("6 * stretch 1 10 0 0", "law 'price 9999*9999' 0 0", "set 0 5 99", "set 1 5 99", "set 2 5 99", "set 3 5 99", "set 4 5 99",
            "set 5 5 99", "choose 0", "choose 1", "choose 2", "choose 3", "choose 4", "choose 5", "choice 1 999999 1 = 599994",
            "choice 1 599994 1 = 599994", "choice 1 599993 1 = 499995", "choice 1 99998 1 = 0", "choice 1 99999 1 = 99999");
    }

    static void p25_thoseWithLeaveAlone() {
        Script s = ONE.plus("trip 1 1000", "choose 0");
        Bounds.runFrom(s, "law 'leave 0' 0 0", "choice 1 999999 0 = 0", "choice 1 999999 2 = 0", "law 'leave k=2' 0 0", "choice 1 999999 0 = 5",
            "choice 1 999999 2 = 2", "law 'leave 0-1' 0 0", "choice 1 999999 2 = 3");
    }

    static void p25_ofLikeWorthTheLeastPricesThenTheFirst() {
        Script s = ONE.plus("trip 1 1000", "choose 0", "law 'leave k=1|k=4' 0 0");
        Bounds.runFrom(s, "choice 1 999999 2 = 1", "law 'price 9-k' 0 0", "choice 1 999999 2 = 4", "law 'price 9' 0 0", "choice 1 999999 2 = 1",
            "law 'price 0' 0 0", "choice 1 999999 2 = 1");
        // None stands ahead of kinds that are worth nothing, even if they cost nothing.
        Bounds.runFrom(s, "boots 0 0", "law 'price 0' 0 0", "law 'leave 1' 0 0", "choice 30 999999 0 = 0", "choice 30 999999 2 = 0");
        // By the order told: of two like ones the one told later is mended.
        Bounds.run("stretch 1 10 0 0", "stretch 12 10 0 0", "trip 2 1000", "choose 1", "choose 0", "choice 1 200 2 = 0", "choice 1 200 3 = 1");
    }

    static void p25_worthBelow0IsNotTaken() {
        Bounds.runFrom(ONE, "choose 0", "law 'leave k=4' 0 0", "law 'price 0' 0 0", "choice 30 0 0 = 0", "choice 30 0 2 = 0");
    }

    static void p25_nothingIsDone() {
        Bounds.must(Views.difference(States.BUSY.plus("choice 30 999999 2"), States.BUSY) == null, "choice changes nothing");
        Bounds.must(Views.difference(States.FULL.plus("choice 30 999999 7"), States.FULL) == null, "choice changes nothing");
    }

    // ---- promise 26

    static void p26_ofNoneOfSomeOfAll() {
        Bounds.leaves(States.FRESH, States.FRESH, "clear", 0);
        Bounds.runFrom(States.BUSY, "clear = 4", "count 6 = 0", "clear = 0", "choose 0 = 1");
        Bounds.runFrom(States.FULL, "clear = 6", "count 6 = 0", "clear = 0", "choose 15 = 1");
    }

    // ---- promise 27

    static void p27_yearIsTheOpenOneTo200() {
        Bounds.run("donor 0 1 = 1", "donor 200 1 = 2", "run 5", "donor 5 1 = 3", "donor 4 1 = BAD", "donor 201 1 = BAD");
        Bounds.refusedAnywhere(BAD, "donor -1 5", "donor 201 5", "donor MIN 5", "donor MAX 5");
        Bounds.refused(States.BUSY, BAD, "donor 3 5", "donor 0 5");
        Bounds.refused(States.LAST, BAD, "donor 199 5");
        Bounds.runFrom(States.LAST, "donor 200 5 = 3");
    }

    static void p27_coinsAre1To99999() {
        Bounds.run("donor 0 1 = 1", "donor 1 99999 = 2", "run 1", "count 11 = 1", "run 1", "count 11 = 100000");
        Bounds.refusedAnywhere(BAD, "donor 200 0", "donor 200 100000", "donor 200 -1", "donor 200 MIN", "donor 200 MAX");
    }

    static void p27_twelveAtMost() {
        Script s = new Script("11 * donor 3 10");
        Bounds.runFrom(s, "donor 3 10 = 12", "count 7 = 12", "run 4", "count 11 = 120");
        Bounds.refused(s.plus("donor 3 10"), FULL, "donor 3 10", "donor 200 99999");
        // Those whose year is gone still count.
        Bounds.refused(new Script("12 * donor 0 10", "run 1"), FULL, "donor 1 10");
    }

    static void p27_badStandsAheadOfFull() {
        Bounds.refused(States.FULL, BAD, "donor 0 5", "donor 201 5", "donor 5 0", "donor 5 100000");
        Bounds.refused(States.FULL, FULL, "donor 1 1", "donor 200 99999");
    }

    static void p27_whatIsDueIn200NeverComes() {
        Bounds.run("donor 199 7", "donor 200 9", "9 * run 20", "run 19", "count 11 = 0", "run 1 = 200", "count 11 = 7", "run 1 = FULL", "count 11 = 7");
    }

    // ---- promise 28

    static void p28_weightIs1To99() {
        Bounds.run("load 1 = 0", "load 99 = 1");
        Bounds.refusedAnywhere(BAD, "load 0", "load 100", "load -1", "load MIN", "load MAX");
    }

    static void p28_tenAtMostNumberedFrom0() {
        Script s = new Script("9 * load 5");
        Bounds.runFrom(s, "load 5 = 9", "count 8 = 10");
        Bounds.refused(s.plus("load 5"), FULL, "load 1", "load 99");
        Bounds.refused(States.FULL, FULL, "load 1");
    }

    static void p28_badStandsAheadOfFull() {
        Bounds.refused(States.FULL, BAD, "load 0", "load 100");
    }

    // ---- promise 29

    private static void flights(int many, int[] loads, int... flights) {
        Script s = new Script();
        for (int w : loads) s = s.plus("load " + w);
        HillPaths x = s.hill();
        Bounds.due("flight(-1)", x.flight(-1), many);
        for (int i = 0; i < flights.length; i++) Bounds.due("flight(" + i + ")", x.flight(i), flights[i]);
        Bounds.due("flight behind the last", x.flight(loads.length), BAD);
    }

    static void p29_loadIsOneThatThereIsOrMinus1() {
        Bounds.refused(States.FRESH, BAD, "flight 0", "flight -2", "flight MIN", "flight MAX");
        Bounds.leaves(States.FRESH, States.FRESH, "flight -1", 0);
        Bounds.refused(States.BUSY, BAD, "flight -2", "flight 5", "flight MIN", "flight MAX", "flight NONE");
        Bounds.leaves(States.BUSY, States.BUSY, "flight 4", 2);
        Bounds.leaves(States.BUSY, States.BUSY, "flight -1", 3);
        Bounds.refused(States.FULL, BAD, "flight 10", "flight -2");
        Bounds.leaves(States.FULL, States.FULL, "flight 9", 1);
        Bounds.leaves(States.FULL, States.FULL, "flight -1", 8);
    }

    static void p29_100TogetherAtMost() {
        flights(1, new int[] {1, 99}, 0, 0);
        flights(2, new int[] {2, 99}, 0, 1);
        flights(1, new int[] {50, 50}, 0, 0);
        flights(2, new int[] {50, 51}, 0, 1);
        flights(1, new int[] {33, 33, 34}, 0, 0, 0);
        flights(2, new int[] {33, 34, 34}, 0, 0, 1);
        flights(1, new int[] {10, 10, 10, 10, 10, 10, 10, 10, 10, 10}, 0, 0, 0, 0, 0, 0, 0, 0, 0, 0);
        flights(2, new int[] {10, 10, 10, 10, 10, 10, 10, 10, 10, 11}, 0, 0, 0, 0, 0, 0, 0, 0, 0, 1);
    }

    static void p29_oneForEachAtMost() {
        flights(10, new int[] {99, 99, 99, 99, 99, 99, 99, 99, 99, 99}, 0, 1, 2, 3, 4, 5, 6, 7, 8, 9);
        flights(10, new int[] {51, 51, 51, 51, 51, 51, 51, 51, 51, 51}, 0, 1, 2, 3, 4, 5, 6, 7, 8, 9);
        flights(5, new int[] {50, 50, 50, 50, 50, 50, 50, 50, 50, 50}, 0, 0, 1, 1, 2, 2, 3, 3, 4, 4);
    }

    static void p29_fewestStandAheadOfTheLeastFlight() {
        // 20 and 30 together would need a third flight.
        flights(2, new int[] {20, 30, 80, 70}, 0, 1, 0, 1);
        flights(2, new int[] {20, 30, 51, 80}, 0, 1, 1, 0);
        flights(2, new int[] {20, 30, 50, 80}, 0, 0, 0, 1);
    }

    static void p29_ofSeveralWaysTheFirst() {
        flights(3, new int[] {60, 50, 40, 50, 99}, 0, 1, 0, 1, 2);
        flights(2, new int[] {60, 60, 40, 40}, 0, 1, 0, 1);
        flights(2, new int[] {60, 60, 30, 30, 10, 10}, 0, 1, 0, 1, 0, 1);
        flights(2, new int[] {60, 60, 10, 30, 30, 10}, 0, 1, 0, 0, 1, 1);
    }
}
