import java.util.ArrayList;
import java.util.List;

/** Boundary cases of promises 43 to 47: numbers that wait, images, counts. */
public final class BoundsRowsTest {
    private static final int BAD = HillPaths.BAD, NO = HillPaths.NO, FULL = HillPaths.FULL;

    /** Two level stretches, 1 wider each year, and coins in years 0 and 1: 22, 5, 24, 12, 26, 12 ... are told. */
    private static final Script KEPT = new Script("stretch 1 10 0 0", "stretch 12 10 0 0", "trip 2 100", "donor 0 5", "donor 1 7", "keep");

    public static void main(String[] args) {
        Bounds.go(BoundsRowsTest.class, 43, 47);
    }

    /** What a check of KEPT takes. */
    private static List<Integer> told(int years) {
        List<Integer> all = new ArrayList<>();
        for (int i = 1; i <= years; i++) {
            all.add(20 + 2 * i);
            all.add(i == 1 ? 5 : 12);
        }
        return all;
    }

    private static Script telling(Script from, List<Integer> numbers) {
        Script s = from.plus();
        for (int v : numbers) s = s.plus("tell " + v);
        return s;
    }

    /** The call is answered so, and behind it no number waits; all else is as it was. */
    private static void checked(Script from, String call, int want) {
        Bounds.leaves(from.minus("tell"), from, call, want);
    }

    // ---- promise 43

    static void p43_sixtyAtMost() {
        Script s = new Script("58 * tell 1");
        Bounds.runFrom(s, "tell 2 = 59", "tell 3 = 60", "tell 4 = FULL", "count 12 = 60");
        Bounds.run("tell 1 = 1", "tell 1 = 2");
        Bounds.refused(new Script("60 * tell 0"), FULL, "tell 0", "tell MAX");
        Bounds.refused(States.FULL, FULL, "tell 0", "tell MIN");
    }

    static void p43_anyNumber() {
        Bounds.run("tell MIN = 1", "tell MAX = 2", "tell NONE = 3", "tell 0 = 4", "tell -1 = 5");
    }

    static void p43_whatIsRefusedIsNotTold() {
        // The 41st is one too many, whatever is refused behind the 60th.
        Script s = telling(KEPT, told(20)).plus("20 * tell 9", "tell 5");
        Bounds.runFrom(s, "count 12 = 60", "check 20 = 41");
    }

    static void p43_behindACheckItBeginsAnew() {
        Bounds.run("60 * tell 0", "check 1 = NO", "tell 7 = 1", "count 12 = 1");
    }

    // ---- promise 44

    static void p44_nIs1To20() {
        for (Script from : States.ALL) {
            for (String n : new String[] {"0", "21", "-1", "MIN", "MAX"}) checked(from, "check " + n, BAD);
        }
        checked(telling(KEPT, told(1)), "check 1", 0);
        checked(telling(KEPT, told(20)), "check 20", 0);
    }

    static void p44_withoutAnImageNo() {
        checked(new Script("tell 0", "tell 0"), "check 1", NO);
        checked(States.FRESH, "check 20", NO);
    }

    static void p44_badStandsAheadOfNo() {
        checked(new Script("tell 0"), "check 0", BAD);
        checked(new Script("tell 0"), "check 21", BAD);
    }

    static void p44_noneWait() {
        checked(KEPT, "check 1", 1);
        checked(KEPT, "check 20", 1);
    }

    static void p44_eachPlaceThatIsNotSo() {
        for (int n : new int[] {1, 2, 20}) {
            for (int i = 0; i < 2 * n; i++) {
                List<Integer> numbers = told(n);
                numbers.set(i, numbers.get(i) + 1);
                Bounds.runFrom(telling(KEPT, numbers), "check " + n + " = " + (1 + i), "count 12 = 0");
            }
        }
    }

    static void p44_eachPlaceThatIsMissing() {
        for (int n : new int[] {1, 2, 20}) {
            for (int i = 0; i < 2 * n; i++) {
                Bounds.runFrom(telling(KEPT, told(n).subList(0, i)), "check " + n + " = " + (1 + i), "count 12 = 0");
            }
        }
    }

    static void p44_oneTooManyOrMore() {
        for (int n : new int[] {1, 2, 20}) {
            Script all = telling(KEPT, told(n));
            Bounds.runFrom(all.plus("tell 0"), "check " + n + " = " + (1 + 2 * n), "count 12 = 0");
            Bounds.runFrom(all.plus("18 * tell 0"), "check " + n + " = " + (1 + 2 * n), "count 12 = 0");
        }
        Bounds.runFrom(telling(KEPT, told(20)).plus("20 * tell 0"), "count 12 = 60", "check 20 = 41");
        // They would be right in a year more.
        Bounds.runFrom(telling(KEPT, told(3)), "check 2 = 5");
    }

    static void p44_numbersOfAnEarlierCheckDoNotCount() {
        Script s = telling(KEPT, told(2)).plus("check 2");
        for (int i = 0; i < 4; i++) Bounds.runFrom(telling(s, told(2).subList(0, i)), "count 12 = " + i, "check 2 = " + (1 + i), "count 12 = 0");
        Bounds.runFrom(telling(s, told(2)), "check 2 = 0");
    }

    static void p44_theFirstThatIsNotSoStandsAheadOfTooMany() {
        List<Integer> numbers = told(1);
        numbers.set(1, 6);
        Bounds.runFrom(telling(KEPT, numbers).plus("tell 9"), "check 1 = 2");
    }

    static void p44_fromTheImageOn() {
        Script s = KEPT.plus("run 7", "set 0 5 9999", "boots 0 0", "donor 9 9", "rain 0 0", "stretch 23 9 92 0");
        Bounds.runFrom(telling(s, told(2)), "check 2 = 0", "count 14 = 7", "told 0 5 = 9999");
        checked(telling(s, told(20)), "check 20", 0);
    }

    static void p44_ofAnEmptyImage() {
        Bounds.run("keep", "tell 0", "tell 0", "check 1 = 0", "40 * tell 0", "check 20 = 0", "40 * tell 0", "check 19 = 39");
    }

    static void p44_behindYear200ItRains5() {
        // Slope 9: rain 20 wears by 18 in year 200, rain 5 by 4 behind it; the mend and the gift of 200 come.
        Script s = new Script("stretch 1 1 90 0", "law 'price 0' 0 0", "rain 199 0", "rain 200 20", "donor 200 9", "9 * run 20", "run 19",
            "set 0 5 10", "keep");
        Bounds.runFrom(s, "tell 10", "tell 0", "tell 28", "tell 9", "tell 32", "tell 9", "tell 36", "tell 9", "check 4 = 0");
        Script mended = s.plus("mend 0 1 200", "run 1 = 200", "set 0 5 50", "keep");
        Bounds.runFrom(mended, "tell 12", "tell 9", "tell 13", "tell 9", "check 2 = 0", "mendTold 0 3 = 0", "count 14 = 200");
    }

    static void p44_nothingElseChanges() {
        checked(States.BUSY, "check 2", 0);
        checked(States.BUSY, "check 3", 5);
        checked(States.FULL, "check 20", 41);
        checked(States.LAST, "check 3", 0);
    }

    // ---- promise 45

    static void p45_inTheFirstAndTheLastYear() {
        Bounds.run("keep = 0", "back = 0", "run 20", "keep = 20", "8 * run 20", "run 20 = 200", "keep = 200", "back = 200");
    }

    static void p45_aNewImageTakesThePlaceOfTheOld() {
        for (Script from : States.ALL) {
            if (from == States.FRESH) continue;
            Script s = from.plus("keep");
            Bounds.must(Views.difference(s.plus("back"), s) == null, "back to what is kept changes nothing");
        }
        Bounds.run("keep = 0", "stretch 1 1 0 0", "keep = 0", "stretch 1 1 0 0", "back = 0", "count 0 = 1", "back = 0", "count 0 = 1");
    }

    // ---- promise 46

    static void p46_withoutAnImageNo() {
        Bounds.refused(States.FRESH, NO, "back");
        Bounds.refused(States.BUSY.minus("keep"), NO, "back");
    }

    static void p46_againAndAgain() {
        Script s = States.BUSY.plus("back");
        Bounds.must(Views.difference(s.plus("run 9", "closing", "clear", "back"), s) == null, "back once more is the same");
        Bounds.must(Views.difference(s.plus("back", "back"), s) == null, "back at once is the same");
    }

    static void p46_fromNothingToFullAndBack() {
        Script s = new Script("keep").plus();
        s.calls.addAll(States.FULL.minus("keep").minus("tell").minus("counter").minus("note").minus("lay").calls);
        Script empty = new Script("keep");
        Script like = empty.plus("8 * feed 0 0 0", "trim 0");
        Bounds.must(Views.difference(s.plus("back", "trim 0"), like) == null, "behind back nothing is there");
        Bounds.runFrom(s.plus("back", "trim 0"), "stretch 1 1 0 0 = 0", "trip 1 5 = 0", "law 'wash 3' 0 0 = 0", "rule 0 3 0 = 3", "rule 0 2 0 = 10",
            "donor 0 1 = 1", "load 1 = 0", "person 1 1 = 0", "job 0 1 = 0", "choose 0 = 1", "told 0 5 = 10", "told 0 8 = 0");
    }

    static void p46_whatIsNotKeptStays() {
        Script s = new Script("keep", "counter 0 0 2", "note 0 0 5", "lay 0 3 9", "tell 1", "tell 2", "tape 'wash 8'");
        Bounds.leaves(s, s, "back", 0);
        Bounds.runFrom(s, "back = 0", "sum 0 0 = 5", "parts 0 1 = 9", "count 12 = 2", "count 13 = 6", "text 0 0 = 0");
    }

    static void p46_eachThingComesBack() {
        String[] changes = {"stretch 12 1 0 0", "set 0 5 77", "set 0 7 1", "trip 1 9", "boots 0 9", "rain 0 0", "rain 200 0", "run 1",
            "closing", "mend 3 1 9", "choose 2", "clear", "donor 9 9", "load 9", "person 1 1", "job 1 1", "beds 0"};
        Script s = States.BUSY.plus("back");
        for (String c : changes) {
            Bounds.must(Views.difference(s.plus(c, "back"), s) == null, "back behind " + c);
        }
        Bounds.must(Views.difference(s.plus("text 0 0", "back"), s.plus("trim 0")) == null, "back behind a text");
    }

    // ---- promise 47

    static void p47_whatIs0To14() {
        Bounds.refusedAnywhere(BAD, "count -1", "count 15", "count MIN", "count MAX");
        for (int what = 0; what <= 14; what++) Bounds.leaves(States.FRESH, States.FRESH, "count " + what, 0);
    }

    static void p47_ofAllThatThereMayBe() {
        int[] most = {16, 0, 12, 14, 20, 16, 6, 12, 10, 10, 4, 0, 60, 96, 1};
        for (int what = 0; what <= 14; what++) Bounds.leaves(States.FULL, States.FULL, "count " + what, most[what]);
    }

    static void p47_whatWaitsAndWhatIsDone() {
        Bounds.run("2 * stretch 1 1 0 0", "law 'price 0' 0 0", "mend 0 1 0", "mend 1 1 1", "count 4 = 2", "count 5 = 2", "run 1", "count 4 = 2",
            "count 5 = 1", "run 1", "count 4 = 2", "count 5 = 0");
    }

    static void p47_shutOnesFromNoneToAll() {
        Bounds.run("2 * stretch 1 1 0 0", "count 1 = 0", "set 1 7 1", "count 1 = 1", "set 0 7 1", "count 1 = 2", "set 0 7 1", "count 1 = 2",
            "closing", "count 1 = 0");
    }

    static void p47_aRefusedCallCountsNothing() {
        Bounds.runFrom(States.FULL, "stretch 1 1 0 0 = FULL", "count 0 = 16", "trip 1 1 = FULL", "count 2 = 12", "mend 0 1 9 = FULL", "count 4 = 20",
            "choose 1 = FULL", "count 6 = 6", "donor 9 9 = FULL", "count 7 = 12", "load 9 = FULL", "count 8 = 10", "person 1 1 = FULL",
            "count 9 = 10", "job 1 1 = FULL", "count 10 = 4", "tell 1 = FULL", "count 12 = 60", "feed 1 1 1 = FULL", "count 13 = 96",
            "trim 12", "text 0 0 = FULL", "count 3 = 14", "count 13 = 0");
    }
}
