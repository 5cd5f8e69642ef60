/** States from which calls are tried: nothing, some of everything, as much as there may be, and the last year. */
final class States {
    static final Script FRESH = new Script();

    /** What is now is not as the image; the numbers that wait are those that a check of two years takes. */
    static final Script BUSY = new Script(
        "stretch 1 5 32 0", "stretch 12 4 1 1", "stretch 2 12 70 2", "stretch 23 9 50 3", "stretch 34 7 41 0",
        "stretch 24 3 92 1", "trip 2 500", "trip 20 100", "trip 4 1200", "trip 43 77", "trip 9 55",
        "law 'leave !(k=2)' 0 0", "law 'price l*k' 0 0", "law 'wash w*2-h' 1 0", "law 'shut b>1000' 3 2", "law 'leave 0' 2 1",
        "donor 0 5000", "donor 3 200", "donor 9 7", "rain 1 12", "rain 5 0", "run 2",
        "mend 0 3 2", "mend 4 1 5", "run 1", "mend 1 4 8", "choose 0", "choose 3", "choose 5",
        "load 60", "load 50", "load 40", "load 50", "load 99", "person 1 3", "person 3 7", "person 2 56",
        "job 0 6", "job 1 4", "job 3 1", "beds 2", "set 5 7 1", "keep",
        "set 0 5 90", "rain 4 20", "donor 4 11", "run 1", "set 2 7 1", "choose 1",
        "counter 0 0 5", "note 0 0 NONE", "note 0 1 40", "note 0 2 NONE", "note 0 3 10", "note 0 4 NONE",
        "counter 1 1 3", "note 1 1 30000", "counter 2 0 24", "note 2 23 7",
        "lay 0 1 0", "lay 1 2 0", "lay 2 3 -7", "lay 4 1 2").tellingYears(2).plus("tape 'price l+1'");

    /** All lists are full, the tape and the numbers, too; the purse is empty, and mends cost nothing. */
    static final Script FULL = new Script(
        "stretch 1 3 0 0", "stretch 12 4 11 1", "stretch 23 5 22 2", "stretch 34 6 30 3", "stretch 45 7 41 0",
        "stretch 56 8 52 1", "stretch 67 9 60 2", "stretch 78 10 71 3", "stretch 89 11 82 0", "stretch 90 12 90 1",
        "stretch 5 13 1 2", "stretch 16 14 12 3", "stretch 27 15 20 0", "stretch 38 16 31 1", "stretch 49 17 42 2",
        "stretch 50 99 50 3",
        "trip 5 100", "trip 16 200", "trip 27 300", "trip 38 400", "trip 49 500", "trip 50 600", "trip 61 700",
        "trip 72 800", "trip 83 900", "trip 94 1000", "trip 90 1100", "trip 8 1200",
        "law 'price 0' 0 0", "law 'price 0' 1 0", "law 'price 0' 2 0", "law 'price 0' 3 0", "law 'leave k-3' 0 2",
        "law 'shut w>40' 1 0", "law 'wash w-d' 2 0", "8 * load 60", "law 'wash 7' 3 200", "law 'wash 8' 3 200",
        "law 'wash 9' 3 0", "law 'leave 1' 1 0", "law 'leave w' 2 0", "law 'shut 0' 3 0", "law 'price 0' 3 0",
        "2 * load 40", "12 * donor 199 99999",
        "mend 0 1 0", "mend 1 2 0", "mend 2 3 0", "mend 3 4 0", "mend 4 1 1", "mend 5 2 2", "mend 6 3 3", "mend 7 4 9",
        "mend 8 1 9", "mend 9 2 9", "mend 10 3 9", "mend 11 4 9", "mend 12 1 9", "mend 13 2 9", "mend 14 3 9",
        "mend 15 4 200", "run 1", "mend 0 3 5", "mend 1 4 5", "mend 2 1 5", "mend 3 2 200",
        "choose 0", "choose 2", "choose 4", "choose 6", "choose 8", "choose 10",
        "person 1 63", "person 3 7", "person 2 56", "person 15 9", "person 4 21", "person 8 42", "person 15 63",
        "person 0 0", "person 5 33", "person 10 18", "job 0 6", "job 1 14", "job 2 10", "job 3 60", "keep",
        "counter 0 0 24", "note 0 23 5", "counter 1 1 24", "note 1 0 NONE", "counter 2 0 24", "counter 3 1 24",
        "lay 0 1 15", "lay 1 2 0", "lay 2 3 MIN", "lay 3 2 1", "lay 4 1 0").tellingYears(20)
            .plus("20 * tell 1", "tape '" + "wash(w+d)*h ".repeat(8) + "'");

    /** In the last year, a mend and a gift being due in it. */
    static final Script LAST = new Script(
        "stretch 1 5 32 0", "stretch 12 4 1 1", "trip 2 500", "donor 0 900", "donor 200 50", "run 1", "mend 0 3 200",
        "9 * run 20", "run 19", "set 0 5 20", "set 1 5 12", "rain 200 20", "law 'shut y=200' 1 200", "keep").tellingYears(3);

    static final Script[] ALL = {FRESH, BUSY, FULL, LAST};

    private States() { }
}
