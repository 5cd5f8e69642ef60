import java.util.ArrayList;
import java.util.LinkedHashSet;
import java.util.List;
import java.util.Random;
import java.util.Set;

/**
 * Promise 15, places of faults: the document's rules for texts as they stand there, in rows, and a reader that knows
 * no text but works with any rules (Earley's): a fault is where none of its items is left.
 */
public final class GrammarTest {
    /** Words in capitals are rules; "nothing" ends a part that may be missing. */
    private static final String[] RULES = {
        "TEXT: leave ELEAVE", "TEXT: shut ESHUT", "TEXT: price EPRICE", "TEXT: wash EWASH"};
    private static final String[] OF_EACH_KEY = {
        "E: OR", "OR: AND MOREOR", "MOREOR: nothing", "MOREOR: | AND MOREOR",
        "AND: TEST MOREAND", "MOREAND: nothing", "MOREAND: & TEST MOREAND",
        "TEST: SUM", "TEST: SUM < SUM", "TEST: SUM = SUM", "TEST: SUM > SUM",
        "SUM: TERM MORESUM", "MORESUM: nothing", "MORESUM: + TERM MORESUM", "MORESUM: - TERM MORESUM",
        "TERM: PART MORETERM", "MORETERM: nothing", "MORETERM: * PART MORETERM", "MORETERM: / PART MORETERM",
        "PART: number", "PART: ! PART", "PART: ( E )"};
    private static final String[] KEYS = {"leave", "shut", "price", "wash"}, NAMES = {"kws", "wby", "klo", "hwd"};
    private static final String SIGNS = "!()|&<=>+-*/";

    private record Rule(String head, List<String> parts) { }

    private record Item(Rule rule, int at, int from) {
        String next() {
            return at < rule.parts.size() ? rule.parts.get(at) : null;
        }
    }

    private static final List<Rule> ALL = new ArrayList<>();
    private static int wrong = 0, asked = 0;

    private static void rule(String line, String key) {
        String[] sides = line.split(": ");
        List<String> parts = new ArrayList<>();
        for (String p : sides[1].split(" ")) {
            if (!p.equals("nothing")) parts.add(isRule(p) && key != null ? p + key : p);
        }
        ALL.add(new Rule(key == null ? sides[0] : sides[0] + key, parts));
    }

    private static boolean isRule(String part) {
        return part.charAt(0) >= 'A' && part.charAt(0) <= 'Z';
    }

    private static void makeRules() {
        for (String line : RULES) rule(line, null);
        for (int k = 0; k < 4; k++) {
            String key = KEYS[k].toUpperCase();
            for (String line : OF_EACH_KEY) rule(line, key);
            for (char c : NAMES[k].toCharArray()) ALL.add(new Rule("PART" + key, List.of(String.valueOf(c))));
        }
    }

    /** What the rules call a word of a text. */
    private static String sortOf(String word) {
        return word.matches("[0-9]{1,4}") ? "number" : word;
    }

    /** The number of the word with which no text goes on; as many as there are, if more must come; -1: a text. */
    private static int faultOf(List<String> words) {
        List<Set<Item>> sets = new ArrayList<>();
        Set<Item> first = new LinkedHashSet<>();
        for (Rule r : ALL) if (r.head.equals("TEXT")) first.add(new Item(r, 0, 0));
        sets.add(closed(first, sets, 0));
        for (int i = 0; i < words.size(); i++) {
            Set<Item> next = new LinkedHashSet<>();
            for (Item t : sets.get(i)) {
                if (sortOf(words.get(i)).equals(t.next())) next.add(new Item(t.rule, t.at + 1, t.from));
            }
            if (next.isEmpty()) return i;
            sets.add(closed(next, sets, i + 1));
        }
        for (Item t : sets.get(words.size())) {
            if (t.rule.head.equals("TEXT") && t.next() == null && t.from == 0) return -1;
        }
        return words.size();
    }

    /** Goes round until nothing comes anew: so a part that is nothing needs no care of its own. */
    private static Set<Item> closed(Set<Item> set, List<Set<Item>> before, int place) {
        for (int size = -1; size != set.size(); ) {
            size = set.size();
            for (Item t : new ArrayList<>(set)) {
                String next = t.next();
                if (next == null) {
                    Set<Item> begun = t.from == place ? set : before.get(t.from);
                    for (Item b : new ArrayList<>(begun)) {
                        if (t.rule.head.equals(b.next())) set.add(new Item(b.rule, b.at + 1, b.from));
                    }
                } else if (isRule(next)) {
                    for (Rule r : ALL) if (r.head.equals(next)) set.add(new Item(r, 0, place));
                }
            }
        }
        return set;
    }

    /** With no blank between letters and digits, if glued: the second of two such words is a fault, too. */
    private static void ask(List<String> words, String ahead, String between, String behind, boolean glued) {
        StringBuilder s = new StringBuilder(ahead);
        int fault = faultOf(words), place = -1;
        for (int i = 0; i < words.size(); i++) {
            if (i > 0 && !areWords(words.get(i - 1), words.get(i))) s.append(between);
            if (i > 0 && areWords(words.get(i - 1), words.get(i))) {
                boolean stuck = glued && isNumber(words.get(i - 1)) != isNumber(words.get(i));
                if (!stuck) s.append(" ");
                if (stuck && (fault < 0 || fault > i)) fault = i;
            }
            if (i == fault) place = s.length();
            s.append(words.get(i));
        }
        s.append(behind);
        if (fault == words.size()) place = s.length();
        if (s.length() > 96) return;
        asked++;
        HillPaths x = new HillPaths();
        PromisesTest.write(x, s.toString());
        int got = x.text(1, 7), want = place < 0 ? 0 : -100 - place;
        if (got == want) return;
        wrong++;
        System.out.println("promise 15: '" + s + "' answered " + got + ", due is " + want);
    }

    private static boolean areWords(String one, String other) {
        return one.matches("[a-z0-9]+") && other.matches("[a-z0-9]+");
    }

    private static boolean isNumber(String word) {
        return word.matches("[0-9]+");
    }

    /** All rows of so many words behind a key. */
    private static void askAll(List<String> words, String[] alphabet, int more) {
        ask(words, "", " ", "", false);
        if (more == 0) return;
        for (String w : alphabet) {
            words.add(w);
            askAll(words, alphabet, more - 1);
            words.remove(words.size() - 1);
        }
    }

    /** Texts that go on for long, with at most seven brackets and seven ! at once, and now and then a wrong word. */
    private static List<String> anyText(Random r) {
        int key = r.nextInt(4), open = 0, nots = 0;
        List<String> words = new ArrayList<>(List.of(KEYS[key]));
        boolean wantsPart = true;
        for (int i = r.nextInt(40); i >= 0; i--) {
            if (r.nextInt(60) == 0) words.add(anyWord(r));
            int roll = r.nextInt(8);
            if (wantsPart && roll == 0 && nots < 7) {
                words.add("!");
                nots++;
            } else if (wantsPart && roll <= 2 && open < 7) {
                words.add("(");
                open++;
            } else if (wantsPart) {
                words.add(r.nextBoolean() ? String.valueOf(r.nextInt(10000)) : String.valueOf(NAMES[key].charAt(r.nextInt(3))));
                wantsPart = false;
            } else if (open > 0 && roll < 3) {
                words.add(")");
                open--;
            } else {
                words.add(String.valueOf("|&|&|&<=>+-*/".charAt(r.nextInt(13))));
                wantsPart = true;
            }
        }
        if (wantsPart && r.nextInt(5) > 0) words.add("7");
        while (open-- > 0 && r.nextInt(12) > 0) words.add(")");
        return words;
    }

    private static String anyWord(Random r) {
        switch (r.nextInt(6)) {
            case 0: return String.valueOf(SIGNS.charAt(r.nextInt(SIGNS.length())));
            case 1: return KEYS[r.nextInt(4)];
            case 2: return String.valueOf("kwsbylohdz".charAt(r.nextInt(10)));
            case 3: return "12345".substring(r.nextInt(3));
            case 4: return String.valueOf((char) (r.nextBoolean() ? 128 + r.nextInt(128) : 'A' + r.nextInt(26)));
            default: return "kw";
        }
    }

    public static void main(String[] args) {
        makeRules();
        askAll(new ArrayList<>(), new String[] {"leave", "wash", "price", "shut", "k", "1", "(", "!", "+"}, 3);
        for (int k = 0; k < 4; k++) {
            String name = String.valueOf(NAMES[k].charAt(k % 3));
            askAll(new ArrayList<>(List.of(KEYS[k])), new String[] {name, "12", "!", "(", ")", "|", "&", "<", "=", "-", "*"}, 4);
            for (char c = 'a'; c <= 'z'; c++) ask(new ArrayList<>(List.of(KEYS[k], String.valueOf(c))), " ", " ", " ", false);
        }
        Random r = new Random(15);
        for (int i = 0; i < 6000; i++) {
            String between = r.nextBoolean() ? "" : " ";
            ask(anyText(r), " ".repeat(r.nextInt(3)), between, " ".repeat(r.nextInt(3)), r.nextInt(4) == 0);
        }
        System.out.println(asked + " texts, " + wrong + " not as due");
        if (wrong != 0) System.exit(1);
    }
}
