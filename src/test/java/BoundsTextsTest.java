/** Boundary cases of promises 13 to 20: texts. */
public final class BoundsTextsTest {
    private static final int BAD = HillPaths.BAD, FULL = HillPaths.FULL, NONE = HillPaths.NONE;
    private static final int MIN = Integer.MIN_VALUE, MAX = Integer.MAX_VALUE;

    public static void main(String[] args) {
        Bounds.go(BoundsTextsTest.class, 13, 20);
    }

    // ---- promise 13

    static void p13_twelveBytesEachTime96AtMost() {
        Bounds.run("feed 0 0 0 = 12", "feed MIN MAX -1 = 24", "5 * feed 1 2 3", "feed 0 0 0 = 96", "count 13 = 96", "feed 0 0 0 = FULL",
            "count 13 = 96");
    }

    static void p13_from84To96IsTakenFrom85Not() {
        Script full = new Script("7 * feed 1 2 3");
        Bounds.runFrom(full, "count 13 = 84", "feed 1 2 3 = 96");
        for (int n = 85; n <= 96; n++) Bounds.refused(new Script("8 * feed 1 2 3", "trim " + n), FULL, "feed 0 0 0", "feed MIN MAX -1");
        Bounds.refused(States.FULL, FULL, "feed 0 0 0");
    }

    static void p13_whatIsRefusedLeavesTheBytes() {
        // "wash 7" and blanks, 96 of them: a row of more bytes would be a fault.
        String text = "wash 7" + " ".repeat(90);
        Bounds.run("stretch 1 1 0 0", "tape '" + text + "'", "feed 707406378 707406378 707406378 = FULL", "text 0 0 = 0", "rule 0 3 0 = 7");
    }

    static void p13_theHighestByteFirst() {
        // 0x77617368 is "wash", 0x20313220 is " 12 ".
        Bounds.run("stretch 1 1 0 0", "feed 2002875240 540095008 538976288 = 12", "text 0 0 = 0", "rule 0 3 0 = 12");
    }

    static void p13_bytesOfANumberBelow0() {
        // "wash 7" and the byte 200, 0xc8: no sign that is known.
        Bounds.run("feed 2002875240 540526624 538976288 = 12", "text 0 0 = -106");
        // All bytes 255: -1; all 0.
        Bounds.run("feed -1 -1 -1 = 12", "text 0 0 = -100", "feed 0 0 0 = 12", "text 0 0 = -100", "feed MIN 0 0 = 12", "text 0 0 = -100");
    }

    // ---- promise 14

    static void p14_nIs0ToWhatTheTapeHas() {
        Bounds.run("trim 0 = 0", "feed 1 2 3", "trim 12 = 12", "count 13 = 12", "trim 11 = 11", "count 13 = 11", "trim 0 = 0", "count 13 = 0");
        Bounds.refused(States.FRESH, BAD, "trim 1", "trim -1", "trim MIN", "trim MAX");
        Bounds.refused(new Script("feed 1 2 3"), BAD, "trim 13", "trim -1", "trim 96");
        Bounds.refused(States.BUSY, BAD, "trim 10", "trim -1");
        Bounds.refused(States.FULL, BAD, "trim 97", "trim MAX", "trim -1");
        Bounds.leaves(States.FULL, States.FULL, "trim 96", 96);
        Bounds.leaves(States.BUSY, States.BUSY, "trim 9", 9);
    }

    static void p14_theFirstBytesAreKept() {
        Bounds.run("stretch 1 1 0 0", "tape 'wash 1234'", "trim 8 = 8", "text 0 0 = 0", "rule 0 3 0 = 123");
        Bounds.run("stretch 1 1 0 0", "tape 'wash 1234'", "trim 9 = 9", "text 0 0 = 0", "rule 0 3 0 = 1234");
        Bounds.run("tape 'wash 1234'", "trim 5 = 5", "text 0 0 = -105");
        Bounds.run("tape 'wash 1234'", "trim 4 = 4", "text 0 0 = -104");
        Bounds.run("tape 'wash 1234'", "trim 3 = 3", "text 0 0 = -100");
    }

    static void p14_moreBytesComeBehindThem() {
        Bounds.run("stretch 1 1 0 0", "tape 'wash 12zz'", "trim 7 = 7", "feed 858988576 538976288 538976288 = 19", "text 0 0 = 0",
            "rule 0 3 0 = 1233");
    }

    // ---- promise 15

    private static void fault(String text, int place) {
        Bounds.run("law '" + text + "' 0 0 = " + (-100 - place), "count 3 = 0", "count 13 = 0");
    }

    private static void good(String text) {
        Bounds.run("law '" + text + "' 0 0 = 0", "count 3 = 1", "count 13 = 0");
    }

    static void p15_ownerIs0To3() {
        Bounds.run("law 'wash 1' 0 0 = 0", "law 'wash 1' 3 0 = 1", "of 0 1 = 0", "of 1 1 = 3");
        for (String owner : new String[] {"-1", "4", "MIN", "MAX"}) {
            for (Script from : States.ALL) Bounds.leaves(from.plus("trim 0"), from, "text " + owner + " 0", BAD);
        }
    }

    static void p15_yearIs0To200() {
        Bounds.run("law 'wash 1' 0 0 = 0", "law 'wash 1' 0 200 = 1", "of 0 2 = 0", "of 1 2 = 200");
        for (String year : new String[] {"-1", "201", "MIN", "MAX"}) {
            for (Script from : States.ALL) Bounds.leaves(from.plus("trim 0"), from, "text 0 " + year, BAD);
        }
    }

    static void p15_aYearThatIsGoneIsTaken() {
        Bounds.run("run 9", "law 'wash 1' 0 0 = 0", "law 'wash 2' 0 8 = 1", "why 0 3 = 1");
    }

    static void p15_fourteenAtMostNumberedFrom0() {
        Script s = new Script();
        for (int i = 0; i < 14; i++) s = s.plus("law 'wash " + i + "' 0 " + i + " = " + i);
        HillPaths x = new HillPaths();
        for (Script.Call c : s.calls) {
            int got = c.on(x);
            if (c.want != null) Bounds.due(c.line, got, c.want);
        }
        Script more = s.plus("tape 'leave 1'");
        Bounds.leaves(s, more, "text 0 0", FULL);
        Bounds.runFrom(s, "count 3 = 14", "of 0 2 = 0", "of 13 2 = 13", "of 14 2 = BAD");
    }

    static void p15_badIsAskedFirst() {
        Bounds.run("law 'leave' 4 0 = BAD", "law 'leave' 0 201 = BAD", "text -1 0 = BAD");
        Script full = new Script();
        for (int i = 0; i < 14; i++) full = full.plus("law 'wash 1' 0 0");
        Bounds.leaves(full, full.plus("tape 'wash 1'"), "text 4 0", BAD);
        Bounds.leaves(full, full.plus("tape 'wash'"), "text 0 -1", BAD);
    }

    static void p15_faultStandsAheadOfFull() {
        Script full = new Script();
        for (int i = 0; i < 14; i++) full = full.plus("law 'wash 1' 0 0");
        Bounds.leaves(full, full.plus("tape 'wash'"), "text 0 0", -104);
        Bounds.leaves(full, full, "text 0 0", -100);
        Bounds.leaves(full, full.plus("tape 'wash 1'"), "text 0 0", FULL);
        Bounds.leaves(States.FULL.plus("trim 0"), States.FULL, "text 0 0", -112);
        Bounds.leaves(States.FULL.plus("trim 0"), States.FULL.plus("trim 12"), "text 0 0", FULL);
    }

    static void p15_theTapeIsUsedUpWhateverIsAnswered() {
        Bounds.run("law 'wash 1' 0 0 = 0", "count 13 = 0", "text 0 0 = -100", "law 'wash' 0 0 = -104", "count 13 = 0", "text 0 0 = -100",
            "law 'wash 1' 4 0 = BAD", "count 13 = 0", "text 0 0 = -100", "count 3 = 1");
        Script s = new Script("tape 'wash ('");
        Bounds.leaves(States.FRESH, s, "text 0 0", -106);
    }

    static void p15_nothingAndBlanksAlone() {
        fault("", 0);
        fault(" ", 1);
        fault(" ".repeat(95), 95);
        fault(" ".repeat(96), 96);
    }

    static void p15_theTapeMayBeFull() {
        String long95 = "leave 1" + "+1".repeat(44);
        good(long95);
        good(long95 + " ");
        fault(long95 + "+", 96);
        good(long95 + "1");
        good("wash" + " ".repeat(91) + "w");
        fault("wash" + " ".repeat(92), 96);
        fault("x" + " ".repeat(95), 0);
        fault(" ".repeat(95) + "x", 95);
        fault("a".repeat(96), 0);
        fault("wash " + "1".repeat(91), 5);
        fault("(".repeat(96), 0);
    }

    static void p15_aTextOrAFaultLeavesNothingToTheNext() {
        Bounds.run("stretch 1 1 0 0", "law 'wash z' 0 0 = -105", "law 'wash 1' 0 0 = 0", "law 'wash 12345' 0 0 = -105", "law 'wash 2' 0 0 = 1",
            "law 'wash' 0 0 = -104", "law '((' 0 0 = -100", "law 'wash ((((((((' 0 0 = -113", "law 'wash ((((((((3))))))))' 0 0 = 2", "rule 0 3 0 = 3",
            "of 2 3 = 1");
        String ones = "1+".repeat(45);
        Bounds.run("stretch 1 1 0 0", "law 'wash " + ones + "1' 0 0 = 0", "law 'wash " + ones + "+' 0 0 = -195", "law 'wash " + ones + "1' 0 0 = 1",
            "rule 0 3 0 = 46", "of 1 3 = 46", "law 'leave 5' 0 0 = 2", "rule 0 0 0 = 5", "rule 0 3 0 = 46");
    }

    static void p15_numbersHave1To4Digits() {
        good("leave 0");
        good("leave 9");
        good("leave 0000");
        good("leave 9999");
        fault("leave 00000", 6);
        fault("leave 10000", 6);
        fault("leave 1+12345", 8);
        fault("leave 123456789012345678901234567890", 6);
        gives("9999", 9999);
        gives("0009", 9);
        gives("0", 0);
    }

    static void p15_eachKeyHasItsThreeNames() {
        String[] keys = {"leave", "shut", "price", "wash"};
        String[] names = {"kws", "wby", "klo", "hwd"};
        for (int k = 0; k < 4; k++) {
            for (char c = 'a'; c <= 'z'; c++) {
                String text = keys[k] + " " + c;
                if (names[k].indexOf(c) >= 0) good(text);
                else fault(text, text.length() - 1);
            }
        }
    }

    static void p15_namesAreOneLetter() {
        fault("leave kk", 6);
        fault("leave kw", 6);
        fault("leave leave", 6);
        fault("leave k k", 8);
        fault("leave k w s", 8);
    }

    static void p15_keysAreWholeWords() {
        for (String key : new String[] {"leave", "shut", "price", "wash"}) {
            good(key + " 1");
            fault(key.substring(1) + " 1", 0);
            fault(key.substring(0, key.length() - 1) + " 1", 0);
            fault(key + "s 1", 0);
            fault(key + key + " 1", 0);
            fault(" " + key.toUpperCase() + " 1", 1);
            fault(key + " " + key + " 1", key.length() + 1);
        }
        fault("l eave 1", 0);
        fault("1", 0);
        fault("k", 0);
    }

    /** Of each byte: what it does at the front, behind the key, as a part, and at the end. */
    static void p15_eachByteByItself() {
        for (int b = 0; b < 256; b++) {
            if (b == '\'') continue;
            char c = (char) b;
            boolean letter = c >= 'a' && c <= 'z', digit = c >= '0' && c <= '9';
            if (c == ' ') good(c + "leave k");
            else fault(c + "leave k", 0);

            String key = "leave" + c + "k";
            if (c == ' ' || c == '!') good(key);
            else fault(key, letter ? 0 : c == '(' ? 7 : 5);

            String part = "leave " + c;
            if (digit || "kws".indexOf(c) >= 0) good(part);
            else fault(part, "(! ".indexOf(c) >= 0 ? 7 : 6);

            String behind = "leave k" + c;
            if (c == ' ') good(behind);
            else fault(behind, letter ? 6 : "+-*/<=>&|".indexOf(c) >= 0 ? 8 : 7);

            String inside = "leave k" + c + "w";
            if ("+-*/<=>&|".indexOf(c) >= 0) good(inside);
            else fault(inside, letter ? 6 : c == ' ' ? 8 : 7);
        }
    }

    static void p15_aWordBehindAWordNeedsABlank() {
        fault("leave1", 5);
        fault("leave12345", 5);
        fault("leave k1", 7);
        fault("leave 1k", 7);
        fault("leave 1k+1", 7);
        good("leave(1)");
        good("leave!1");
        good("leave 1+k");
        good("leave(k)+(1)");
        fault("leave(k)1", 8);
        fault("leave(k)k", 8);
    }

    static void p15_blanksMayStandAnywhereBetween() {
        good("   leave   k   +   1   ");
        good("leave ( k ) ");
        good("leave ! ! k");
        good("leave   k<   w");
        fault("lea ve k", 0);
        fault("leave 1 2", 8);
    }

    static void p15_theEndTooSoon() {
        String[] soon = {"leave", "leave ", "leave (", "leave (k", "leave (k ", "leave ((k)", "leave !", "leave ! ", "leave k+", "leave k-",
            "leave k*", "leave k/", "leave k<", "leave k=", "leave k>", "leave k&", "leave k|", "leave k|  ", "leave k+(", "leave k+(w-"};
        for (String s : soon) fault(s, s.length());
    }

    static void p15_theNinthBracketIsAFault() {
        String open = "(".repeat(8), close = ")".repeat(8);
        good("leave " + open + "k" + close);
        fault("leave (" + open + "k)" + close, 14);
        fault("leave (" + open, 14);
        fault("leave " + open, 14);
        fault("leave " + open + "k", 15);
        fault("leave " + open + "k" + close + ")", 23);
        // Eight that are shut again do not count.
        good("leave " + open + "k" + close + "+" + open + "k" + close);
        good("leave (" + "(((((((k)))))))" + "+" + "(((((((k)))))))" + ")");
        fault("leave (" + "(((((((k)))))))" + "+" + "((((((((k", 6 + 1 + 15 + 1 + 7);
        good("leave " + "(k)+".repeat(12) + "1");
    }

    static void p15_theNinthNotIsAFault() {
        String nots = "!".repeat(8);
        good("leave " + nots + "k");
        fault("leave " + nots, 14);
        fault("leave !" + nots + "k", 14);
        fault("leave !" + nots, 14);
        good("leave " + nots + "k&" + nots + "k");
        good("leave " + nots + "(k)");
        // Likewise within others: through brackets, too.
        good("leave !!!!(!!!!k)");
        fault("leave !!!!(!!!!!k)", 15);
        good("leave !!!!(!!!!k)+!!!!(!!!!k)");
        good("leave (!!!!!!!!k)+!!!!!!!!k");
    }

    static void p15_bracketsAndNotsCountEachByItself() {
        good("leave " + "!(".repeat(8) + "k" + ")".repeat(8));
        fault("leave " + "!(".repeat(8) + "!k", 22);
        fault("leave " + "!(".repeat(8) + "(k", 22);
        good("leave " + "(".repeat(8) + "!".repeat(8) + "k" + ")".repeat(8));
        good("leave " + "!".repeat(8) + "(".repeat(8) + "k" + ")".repeat(8));
    }

    static void p15_aTestHasOneSignAtMost() {
        for (char a : "<=>".toCharArray()) {
            for (char b : "<=>".toCharArray()) {
                fault("leave 1" + a + "2" + b + "3", 9);
                good("leave (1" + a + "2)" + b + "3");
                good("leave 1" + a + "(2" + b + "3)");
                good("leave 1" + a + "2&1" + b + "3");
                good("leave 1" + a + "2|1" + b + "3");
            }
        }
        fault("leave 1<=2", 8);
    }

    static void p15_thereAreNoSignsAheadOfNumbers() {
        fault("leave -1", 6);
        fault("leave +1", 6);
        fault("leave 1--1", 8);
        fault("leave ()", 7);
        fault("leave )", 6);
        fault("leave 1!", 7);
        fault("leave 1!1", 7);
        fault("leave (1)(2)", 9);
        fault("leave 1&&1", 8);
        fault("leave 1||1", 8);
    }

    /** What wash gives for a stretch of width 10, HOLDS 25, the only one. */
    private static void gives(String e, int want) {
        Bounds.run("stretch 1 8 0 2", "law 'wash " + e + "' 2 0 = 0", "rule 0 3 0 = " + want);
    }

    static void p15_intsWrap() {
        gives("2048*1024*1024-1", MAX);
        gives("2048*1024*1024", MIN);
        gives("2048*1024*1024-1+1", MIN);
        gives("0-2048*1024*1024", MIN);
        gives("0-2048*1024*1024-1", MAX);
        gives("2048*1024*1024*2", 0);
        gives("9999*9999*9999", 9999 * 9999 * 9999);
        gives("9999*9999*9999*9999*9999", 9999 * 9999 * 9999 * 9999 * 9999);
        gives("(2048*1024*1024-1)*(2048*1024*1024-1)", 1);
        gives("2048*1024*1024<0", 1);
        gives("2048*1024*1024-1>0-2048*1024*1024", 1);
        gives("!(2048*1024*1024*2)", 1);
    }

    static void p15_aDivisionBy0Is0() {
        gives("7/0", 0);
        gives("0/0", 0);
        gives("2048*1024*1024/0", 0);
        gives("7/(w-10)", 0);
        gives("1+7/0", 1);
        gives("7/0/0", 0);
        gives("7/(1/2)", 0);
    }

    static void p15_divisionCutsTowards0() {
        gives("1/2", 0);
        gives("(0-1)/2", 0);
        gives("7/2", 3);
        gives("(0-7)/2", -3);
        gives("7/(0-2)", -3);
        gives("(0-7)/(0-2)", 3);
        gives("2048*1024*1024/(0-1)", MIN);
        gives("2048*1024*1024/1", MIN);
        gives("2048*1024*1024/(0-2)", 1 << 30);
    }

    static void p15_whatIsNot0IsTrue() {
        gives("!0", 1);
        gives("!1", 0);
        gives("!(0-1)", 0);
        gives("!9999", 0);
        gives("!!9999", 1);
        gives("2&4", 1);
        gives("(0-1)&1", 1);
        gives("1&0", 0);
        gives("0&1", 0);
        gives("0|0", 0);
        gives("0|9", 1);
        gives("(0-9)|0", 1);
        gives("7|8", 1);
    }

    static void p15_testsAreOfLikeAndOfNext() {
        gives("2<2", 0);
        gives("1<2", 1);
        gives("3<2", 0);
        gives("2>2", 0);
        gives("3>2", 1);
        gives("1>2", 0);
        gives("2=2", 1);
        gives("2=3", 0);
        gives("2=1", 0);
    }

    static void p15_bothSidesAreWorkedOut() {
        gives("1|1/0", 1);
        gives("0&1/0", 0);
    }

    // ---- promise 16

    static void p16_textIsOneThatThereIs() {
        Bounds.refused(States.FRESH, BAD, "of 0 0", "of -1 0");
        Bounds.refused(States.BUSY, BAD, "of -1 0", "of 5 0", "of MIN 0", "of MAX 0");
        Bounds.leaves(States.BUSY, States.BUSY, "of 4 1", 2);
        Bounds.refused(States.FULL, BAD, "of 14 0");
        Bounds.leaves(States.FULL, States.FULL, "of 13 1", 3);
    }

    static void p16_whatIs0To3() {
        Bounds.leaves(States.BUSY, States.BUSY, "of 3 0", 1);
        Bounds.leaves(States.BUSY, States.BUSY, "of 3 3", 2);
        Bounds.refused(States.BUSY, BAD, "of 0 -1", "of 0 4", "of 0 MIN", "of 0 MAX");
    }

    static void p16_howManyNumbersAndNames() {
        Bounds.run("law 'wash 1' 0 0 = 0", "of 0 3 = 1", "law 'wash !((w))' 0 0 = 1", "of 1 3 = 1", "law 'wash w+w*h/d-0000' 0 0 = 2", "of 2 3 = 5");
        Bounds.run("law 'wash " + "1+".repeat(45) + "1' 0 0 = 0", "of 0 3 = 46");
        Bounds.run("law 'wash(" + "1+".repeat(44) + "1)' 0 0 = 0", "of 0 3 = 45");
    }

    static void p16_keysByTheirOrder() {
        Bounds.run("law 'leave 1' 0 0", "law 'shut 1' 0 0", "law 'price 1' 0 0", "law 'wash 1' 0 0", "of 0 0 = 0", "of 1 0 = 1", "of 2 0 = 2",
            "of 3 0 = 3");
    }

    // ---- promise 17

    static void p17_ownerIs0To3KeyIs0To3() {
        Bounds.refusedAnywhere(BAD, "why -1 0", "why 4 0", "why 0 -1", "why 0 4", "why MIN 0", "why MAX 0", "why 0 MIN", "why 0 MAX");
        Bounds.run("law 'leave 1' 0 0", "law 'wash 1' 3 0", "why 0 0 = 0", "why 3 3 = 1", "why 0 3 = NONE", "why 3 0 = NONE");
    }

    static void p17_withoutATextThereIsNone() {
        Bounds.refused(States.FRESH, NONE, "why 0 0", "why 3 3");
        Bounds.refused(States.BUSY, NONE, "why 0 1", "why 3 3");
    }

    static void p17_inForceFromItsYearOn() {
        Bounds.run("law 'wash 1' 0 3", "why 0 3 = NONE", "run 2", "why 0 3 = NONE", "run 1", "why 0 3 = 0", "run 20", "why 0 3 = 0");
        Bounds.run("law 'wash 1' 0 200", "9 * run 20", "run 19", "why 0 3 = NONE", "run 1", "why 0 3 = 0");
    }

    static void p17_theLatestYearThenTheGreatestNumber() {
        Bounds.run("law 'wash 1' 0 2", "law 'wash 2' 0 1", "law 'wash 3' 0 2", "law 'wash 4' 0 0", "law 'wash 5' 1 9", "why 0 3 = 3", "run 1",
            "why 0 3 = 1", "run 1", "why 0 3 = 2", "run 1", "why 0 3 = 2", "law 'wash 6' 0 1 = 5", "why 0 3 = 2", "law 'wash 7' 0 3 = 6",
            "why 0 3 = 6");
    }

    // ---- promise 18

    static void p18_stretchIsOneThatThereIs() {
        Bounds.refused(States.FRESH, BAD, "rule 0 0 0", "rule 0 1 0", "rule 0 3 0");
        Bounds.refused(States.BUSY, BAD, "rule -1 0 0", "rule 6 0 0", "rule MIN 1 0", "rule MAX 3 0");
        Bounds.refused(States.FULL, BAD, "rule 16 0 0");
        Bounds.leaves(States.FULL, States.FULL, "rule 15 0 0", 1);
    }

    static void p18_keyIs0To3() {
        Bounds.refusedAnywhere(BAD, "rule 0 -1 0", "rule 0 4 0", "rule 0 MIN 0", "rule 0 MAX 0");
        Bounds.leaves(States.BUSY, States.BUSY, "rule 0 0 2", 0);
        Bounds.leaves(States.BUSY, States.BUSY, "rule 3 3 0", States.BUSY.hill().told(3, 5) - 15);
    }

    static void p18_kindIs0To4OfLeaveAndPriceAlone() {
        Script s = new Script("stretch 1 9 0 0");
        for (int key : new int[] {0, 2}) {
            for (String kind : new String[] {"-1", "5", "MIN", "MAX"}) Bounds.refused(s, BAD, "rule 0 " + key + " " + kind);
        }
        for (String kind : new String[] {"-1", "0", "4", "5", "MIN", "MAX"}) {
            Bounds.leaves(s, s, "rule 0 1 " + kind, 0);
            Bounds.leaves(s, s, "rule 0 3 " + kind, 10 - 25);
        }
        Bounds.leaves(s, s, "rule 0 0 0", 1);
        Bounds.leaves(s, s, "rule 0 0 4", 1);
        Bounds.leaves(s, s, "rule 0 2 0", 90);
        Bounds.leaves(s, s, "rule 0 2 4", 450);
    }

    static void p18_priceWithoutATextLeastAndGreatest() {
        Bounds.run("stretch 1 1 0 0", "stretch 1 99 0 0", "rule 0 2 0 = 10", "rule 0 2 4 = 50", "rule 1 2 0 = 990", "rule 1 2 4 = 4950");
    }

    private static void price(String e, int want) {
        Bounds.run("stretch 1 9 0 0", "law 'price " + e + "' 0 0 = 0", "rule 0 2 0 = " + want, "rule 0 2 4 = " + want);
    }

    static void p18_priceIsHeldFrom0To99999() {
        price("0", 0);
        price("0-1", 0);
        price("1", 1);
        price("0-2048*1024*1024", 0);
        price("9999*10+8", 99998);
        price("9999*10+9", 99999);
        price("9999*10+10", 99999);
        price("9999*11", 99999);
        price("2048*1024*1024-1", 99999);
        price("2048*1024*1024", 0);
        price("9999*9999*30", 9999 * 9999 * 30 < 0 ? 0 : 99999);
    }

    static void p18_othersAreNotHeld() {
        Bounds.run("stretch 1 9 0 0", "law 'leave 0-2048*1024*1024' 0 0", "law 'shut 2048*1024*1024-1' 0 0", "law 'wash 9999*11' 0 0",
            "rule 0 0 0 = MIN", "rule 0 1 0 = MAX", "rule 0 3 0 = 109989", "law 'leave 0-1' 0 0", "rule 0 0 4 = -1");
    }

    static void p18_onlyOwnTextsInForceCount() {
        Bounds.run("stretch 1 9 0 1", "law 'leave 7' 0 0", "law 'leave 8' 2 0", "law 'leave 9' 1 1", "rule 0 0 0 = 1", "run 1", "rule 0 0 0 = 9");
    }

    static void p18_howManyMeetAtTheFirstCairn() {
        Bounds.run("stretch 1 9 0 0", "law 'wash d' 0 0", "rule 0 3 0 = 1", "stretch 12 9 0 1", "rule 0 3 0 = 1", "stretch 20 9 0 1",
            "rule 0 3 0 = 2", "13 * stretch 30 9 0 1", "rule 0 3 0 = 15", "set 2 7 1", "rule 0 3 0 = 15");
    }

    static void p18_namesAtTheirEdges() {
        Bounds.run("stretch 1 99 92 0", "set 0 5 9999", "law 'leave w*10+s' 0 0", "rule 0 0 0 = 99999", "law 'price l*10+o' 0 0", "rule 0 2 0 = 992",
            "law 'leave k' 0 0", "rule 0 0 0 = 0", "rule 0 0 4 = 4", "12 * trip 1 9999", "law 'shut b' 0 0", "rule 0 1 0 = 119988",
            "law 'shut y' 0 0", "rule 0 1 0 = 0", "9 * run 20", "run 20 = 200", "rule 0 1 0 = 200");
    }

    static void p18_askingChangesNothing() {
        for (int key = 0; key < 4; key++) {
            Bounds.must(Views.difference(States.BUSY.plus("rule 0 " + key + " 1"), States.BUSY) == null, "rule changes nothing");
        }
    }

    // ---- promise 19

    static void p19_ofNoStretches() {
        Bounds.leaves(States.FRESH, States.FRESH, "closing", 0);
    }

    static void p19_allOrNone() {
        String[] laws = {"law 'shut 1' 0 0", "law 'shut 1' 1 0", "law 'shut 1' 2 0", "law 'shut 1' 3 0"};
        Bounds.run("4 * stretch 1 1 0 0", "4 * stretch 1 1 0 1", "4 * stretch 1 1 0 2", "4 * stretch 1 1 0 3", laws[0], "closing = 4", laws[1],
            "closing = 8", laws[2], "closing = 12", laws[3], "closing = 16", "count 1 = 16", "told 15 7 = 1", "told 0 7 = 1");
        Bounds.run("2 * stretch 1 1 0 0", "set 0 7 1", "set 1 7 1", "count 1 = 2", "closing = 0", "count 1 = 0");
    }

    static void p19_shutIsWhatIsNot0() {
        Bounds.run("stretch 1 1 0 0", "law 'shut 0-1' 0 0", "closing = 1", "law 'shut 0' 0 0", "closing = 0", "law 'shut 9999' 0 0", "closing = 1",
            "law 'shut 2048*1024*1024*2' 0 0", "closing = 0", "law 'shut 2048*1024*1024' 0 0", "closing = 1");
    }

    static void p19_byBootsAheadOfAll() {
        // While 0 is open 1 has no boots; that 0 is shut by this call does not yet send boots there.
        Bounds.run("stretch 1 1 0 0", "stretch 1 2 0 0", "trip 1 501", "law 'shut b>500' 0 0", "closing = 1", "told 0 7 = 1", "told 1 7 = 0",
            "closing = 1", "told 0 7 = 0", "told 1 7 = 1", "boots 0 500", "closing = 0");
        // Those that were shut ahead of it count as shut for the boots.
        Bounds.run("stretch 1 1 0 0", "stretch 1 2 0 0", "trip 1 501", "law 'shut b>500' 0 0", "set 0 7 1", "closing = 1", "told 0 7 = 0",
            "told 1 7 = 1");
    }

    // ---- promise 20

    static void p20_iIs0OrMore() {
        Bounds.refusedAnywhere(BAD, "washed -1", "washed MIN", "washed NONE");
    }

    static void p20_behindTheLastThereIsNone() {
        Bounds.refused(States.FRESH, NONE, "washed 0", "washed MAX");
        Bounds.refused(States.BUSY, NONE, "washed 6", "washed MAX");
        Bounds.refused(States.FULL, NONE, "washed 16");
        Script s = new Script("stretch 1 1 0 0");
        Bounds.leaves(s, s, "washed 0", 0);
        Bounds.refused(s, NONE, "washed 1");
        Script all = new Script("16 * stretch 1 1 0 0");
        Bounds.leaves(all, all, "washed 15", 15);
    }

    static void p20_ofLikeOnesTheLesserNumber() {
        Bounds.run("4 * stretch 1 1 0 0", "washed 0 = 0", "washed 1 = 1", "washed 2 = 2", "washed 3 = 3", "set 2 5 11", "washed 0 = 2",
            "washed 1 = 0", "washed 2 = 1", "washed 3 = 3", "set 0 5 9", "washed 3 = 0", "washed 2 = 3");
    }

    static void p20_theGreatestAndTheLeastNumber() {
        Bounds.run("stretch 1 1 0 0", "stretch 1 1 0 1", "stretch 1 1 0 2", "law 'wash 2048*1024*1024' 0 0", "law 'wash 2048*1024*1024-1' 1 0",
            "law 'wash 0-1' 2 0", "rule 0 3 0 = MIN", "rule 1 3 0 = MAX", "washed 0 = 1", "washed 1 = 2", "washed 2 = 0");
    }
}
