/** Boundary cases of promises 30 to 33: people. */
public final class BoundsPeopleTest {
    private static final int BAD = HillPaths.BAD, FULL = HillPaths.FULL;

    public static void main(String[] args) {
        Bounds.go(BoundsPeopleTest.class, 30, 33);
    }

    // ---- promise 30

    static void p30_skillsAreBits0To15() {
        Bounds.run("person 0 0 = 0", "person 15 0 = 1");
        Bounds.refusedAnywhere(BAD, "person -1 0", "person 16 0", "person MIN 0", "person MAX 0");
    }

    static void p30_weekendsAreBits0To63() {
        Bounds.run("person 0 0 = 0", "person 0 63 = 1");
        Bounds.refusedAnywhere(BAD, "person 0 -1", "person 0 64", "person 0 MIN", "person 0 MAX");
    }

    static void p30_eachBitIsOneSkillAndOneWeekend() {
        for (int skill = 0; skill < 4; skill++) {
            for (int weekend = 0; weekend < 6; weekend++) {
                Script s = new Script("person " + (1 << skill) + " " + (1 << weekend), "job " + skill + " 2");
                Bounds.runFrom(s, "roster -2 = 1", "roster -1 = 2", "roster " + weekend + " = 0", "roster " + (weekend + 1) % 6 + " = NONE");
                Script other = new Script("person " + (15 - (1 << skill)) + " 63", "job " + skill + " 2");
                Bounds.runFrom(other, "roster -1 = 0");
                Script away = new Script("person 15 " + (63 - (1 << weekend)), "job " + skill + " 12");
                Bounds.runFrom(away, "roster -1 = 10", "roster " + weekend + " = NONE");
            }
        }
    }

    static void p30_tenAtMostNumberedFrom0() {
        Script s = new Script("9 * person 15 63");
        Bounds.runFrom(s, "person 15 63 = 9", "count 9 = 10");
        Bounds.refused(s.plus("person 15 63"), FULL, "person 0 0", "person 15 63");
        Bounds.refused(States.FULL, FULL, "person 0 0");
    }

    static void p30_badStandsAheadOfFull() {
        Bounds.refused(States.FULL, BAD, "person 16 0", "person 0 64", "person -1 -1");
    }

    // ---- promise 31

    static void p31_skillIs0To3() {
        Bounds.run("job 0 1 = 0", "job 3 1 = 1");
        Bounds.refusedAnywhere(BAD, "job -1 1", "job 4 1", "job MIN 1", "job MAX 1");
    }

    static void p31_needsAre1To60() {
        Bounds.run("job 0 1 = 0", "job 0 60 = 1");
        Bounds.refusedAnywhere(BAD, "job 0 0", "job 0 61", "job 0 -1", "job 0 MIN", "job 0 MAX");
    }

    static void p31_fourAtMostNumberedFrom0() {
        Script s = new Script("3 * job 1 5");
        Bounds.runFrom(s, "job 1 5 = 3", "count 10 = 4");
        Bounds.refused(s.plus("job 1 5"), FULL, "job 0 1", "job 3 60");
        Bounds.refused(States.FULL, FULL, "job 0 1");
    }

    static void p31_badStandsAheadOfFull() {
        Bounds.refused(States.FULL, BAD, "job 4 1", "job 0 0", "job 0 61");
    }

    // ---- promise 32

    static void p32_bedsAre0To10() {
        Bounds.run("beds 0 = 10", "beds 10 = 0", "beds 10 = 10");
        Bounds.refusedAnywhere(BAD, "beds -1", "beds 11", "beds MIN", "beds MAX");
    }

    static void p32_soManyOfThemAtMost() {
        Script s = new Script("10 * person 1 1", "job 0 60");
        for (int n = 0; n <= 10; n++) Bounds.runFrom(s, "beds " + n + " = 10", "roster -1 = " + 2 * n);
        Bounds.run("3 * person 1 1", "job 0 60", "beds 2", "roster -1 = 4", "beds 3", "roster -1 = 6", "beds 4", "roster -1 = 6");
    }

    static void p32_withoutBedsThereIsNoGang() {
        Bounds.run("10 * person 15 63", "job 0 1", "beds 0", "roster -2 = 0", "roster -1 = 0", "roster 0 = NONE", "roster 5 = NONE");
    }

    // ---- promise 33

    private static void roster(Script s, String... weekends) {
        HillPaths x = s.hill();
        for (int w = 0; w < 6; w++) Bounds.due("roster(" + w + ")", x.roster(w), Script.number(weekends[w]));
    }

    static void p33_whatIsMinus2To5() {
        Bounds.refusedAnywhere(BAD, "roster -3", "roster 6", "roster MIN", "roster MAX", "roster NONE");
        for (int what = -2; what <= 5; what++) {
            Bounds.must(Views.difference(States.FULL.plus("roster " + what), States.FULL) == null, "roster changes nothing");
        }
    }

    static void p33_withoutJobsOrPeople() {
        Bounds.run("roster -2 = 0", "roster -1 = 0", "roster 0 = NONE", "roster 5 = NONE");
        Bounds.run("10 * person 15 63", "roster -2 = 0", "roster -1 = 0", "roster 0 = NONE", "roster 5 = NONE");
        Bounds.run("4 * job 0 1", "roster -2 = 0", "roster -1 = 0", "roster 0 = NONE", "roster 5 = NONE");
    }

    static void p33_needsAreMetFromExactlyThatMuchOn() {
        // Five of them on six weekends: 60 days.
        Script five = new Script("5 * person 1 63");
        Bounds.runFrom(five, "job 0 60", "roster -2 = 1", "roster -1 = 60", "roster 0 = 0");
        Bounds.runFrom(five, "job 0 59", "roster -2 = 1", "roster -1 = 59", "roster 0 = 0");
        Bounds.runFrom(five, "job 0 50", "roster -2 = 1", "roster -1 = 50", "roster 0 = NONE", "roster 1 = 0");
        Bounds.run("4 * person 1 63", "person 1 62", "job 0 60", "roster -2 = 0", "roster -1 = 58");
        Bounds.run("4 * person 1 63", "person 1 62", "job 0 58", "roster -2 = 1", "roster -1 = 58");
    }

    static void p33_whatIsBeyondNeedsIsNotCounted() {
        Bounds.run("10 * person 1 63", "job 0 1", "roster -2 = 1", "roster -1 = 1", "roster 4 = NONE", "roster 5 = 0");
        Bounds.run("10 * person 1 63", "4 * job 0 60", "roster -2 = 2", "roster -1 = 120");
    }

    static void p33_mostJobsStandAheadOfMostDays() {
        // One who has both skills is free on weekend 0 alone, nine have skill 0: 1 day met against 20 unmet.
        Script s = new Script("9 * person 1 1", "person 3 1", "job 0 60", "job 1 1");
        roster(s, "1", "NONE", "NONE", "NONE", "NONE", "NONE");
        Bounds.runFrom(s, "roster -2 = 1", "roster -1 = 1");
        Script even = new Script("9 * person 1 1", "person 3 1", "job 0 60", "job 1 3");
        roster(even, "0", "NONE", "NONE", "NONE", "NONE", "NONE");
        Bounds.runFrom(even, "roster -2 = 0", "roster -1 = 20");
    }

    static void p33_thenTheFirstNoneAheadOfJobs() {
        roster(new Script("person 1 63", "job 0 2"), "NONE", "NONE", "NONE", "NONE", "NONE", "0");
        roster(new Script("person 1 63", "job 0 2", "job 0 2"), "NONE", "NONE", "NONE", "NONE", "0", "1");
        roster(new Script("person 1 63", "4 * job 0 2"), "NONE", "NONE", "0", "1", "2", "3");
        roster(new Script("person 1 63", "4 * job 0 60"), "0", "0", "0", "0", "0", "0");
        roster(new Script("person 1 33", "job 0 2", "job 0 2"), "0", "NONE", "NONE", "NONE", "NONE", "1");
        roster(new Script("person 1 1", "job 0 2", "job 0 2"), "0", "NONE", "NONE", "NONE", "NONE", "NONE");
    }
}
