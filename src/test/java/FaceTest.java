import java.lang.reflect.Constructor;
import java.lang.reflect.Field;
import java.lang.reflect.Method;
import java.lang.reflect.Modifier;
import java.nio.file.Files;
import java.nio.file.Path;
import java.util.ArrayList;
import java.util.List;
import java.util.Set;
import java.util.TreeSet;
import java.util.regex.Matcher;
import java.util.regex.Pattern;

/** The public face, and the rules of LANGUAGE.md that can be seen in the class or in its source. */
public final class FaceTest {
    private static final String[] METHODS = {
        "stretch 4", "told 2", "as 2", "set 3", "trip 2", "boots 2", "way 2", "without 2", "rain 2", "run 1", "lost 1",
        "feed 3", "trim 1", "text 2", "of 2", "why 2", "rule 3", "closing 0", "washed 1", "mend 3", "mendTold 2",
        "worth 3", "choose 1", "choice 3", "clear 0", "donor 2", "load 1", "flight 1", "person 2", "job 2", "beds 1",
        "roster 1", "counter 3", "note 3", "span 3", "sum 2", "copy 5", "lay 3", "ask 2", "gaps 1", "parts 2",
        "tell 1", "check 1", "keep 0", "back 0", "count 1"};
    private static final String[] CONSTANTS = {"BAD -1000000001", "NO -1000000002", "FULL -1000000003",
        "NONE -1000000005", "NOTHING -1000000011", "KIND -1000000012", "INDEX -1000000013", "SIZE -1000000014"};
    private static final String[] BANNED = {"\\bthrow\\b", "\\btry\\b", "\\bcatch\\b", "\\bsynchronized\\b",
        "\\bassert\\b", "->", "::", "\\bimport\\b", "\\bpackage\\b", "\\bSystem\\.(?!arraycopy)", "Exact\\(",
        "\\bRandom\\b", "\\bThread\\b", "\\bObject\\b", "\\btoString\\(", "\\bhashCode\\(", "\\bvar\\b", "@"};

    private static int wrong = 0;

    private static void must(boolean holds, String what) {
        if (holds) return;
        wrong++;
        System.out.println("not so: " + what);
    }

    public static void main(String[] args) throws Exception {
        face();
        insides();
        source();
        document();
        System.out.println(wrong == 0 ? "the face is as due" : wrong + " faults");
        if (wrong != 0) System.exit(1);
    }

    private static void face() throws Exception {
        Class<?> c = HillPaths.class;
        must(Modifier.isPublic(c.getModifiers()) && Modifier.isFinal(c.getModifiers()), "public final class");
        Constructor<?>[] made = c.getDeclaredConstructors();
        must(made.length == 1 && made[0].getParameterCount() == 0 && Modifier.isPublic(made[0].getModifiers()),
            "one public constructor without parameters");
        Set<String> due = new TreeSet<>(List.of(METHODS));
        Set<String> there = new TreeSet<>();
        Set<String> hidden = new TreeSet<>();
        for (Method m : c.getDeclaredMethods()) {
            if (m.isSynthetic()) continue;
            if (Modifier.isPrivate(m.getModifiers())) {
                hidden.add(m.getName());
                continue;
            }
            must(Modifier.isPublic(m.getModifiers()) && !Modifier.isStatic(m.getModifiers()), m + " is of the face");
            must(m.getReturnType() == int.class, m + " answers an int");
            for (Class<?> p : m.getParameterTypes()) must(p == int.class, m + " takes ints");
            there.add(m.getName() + " " + m.getParameterCount());
        }
        must(due.equals(there), "the methods are those of the document: " + there);
        for (String m : METHODS) must(!hidden.contains(m.split(" ")[0]), "no private method named as " + m);
        Set<String> constants = new TreeSet<>();
        for (Field f : c.getDeclaredFields()) {
            if (Modifier.isPrivate(f.getModifiers()) || f.isSynthetic()) continue;
            must(Modifier.isPublic(f.getModifiers()) && Modifier.isStatic(f.getModifiers())
                && Modifier.isFinal(f.getModifiers()) && f.getType() == int.class, f + " is a public constant");
            constants.add(f.getName() + " " + f.getInt(null));
        }
        must(constants.equals(new TreeSet<>(List.of(CONSTANTS))), "the constants are those of the document: " + constants);
    }

    private static void insides() {
        List<Class<?>> all = new ArrayList<>(List.of(HillPaths.class.getDeclaredClasses()));
        must(all.size() < 13, "some twelve classes");
        for (Class<?> c : all) {
            must(Modifier.isStatic(c.getModifiers()) && !Modifier.isPublic(c.getModifiers())
                && !Modifier.isProtected(c.getModifiers()), c + " is static and not public");
        }
        all.add(HillPaths.class);
        for (Class<?> c : all) {
            int own = 0;
            for (Field f : c.getDeclaredFields()) {
                if (Modifier.isStatic(f.getModifiers())) must(Modifier.isFinal(f.getModifiers()), f + " is final");
                else own++;
            }
            must(own <= 20, c + " has some twenty fields, not " + own);
            for (Method m : c.getDeclaredMethods()) {
                must(m.getParameterCount() <= 7, m + " takes seven parameters at most");
                if (c == HillPaths.class) continue;
                for (String face : METHODS) must(!m.getName().equals(face.split(" ")[0]), m + " has a name of its own");
            }
        }
    }

    private static void source() throws Exception {
        String text = Files.readString(Path.of("src/main/java/HillPaths.java"));
        for (int i = 0; i < text.length(); i++) must(text.charAt(i) < 128, "signs 1 to 127 at " + i);
        String code = text.replaceAll("(?s)/\\*.*?\\*/", "").replaceAll("//[^\n]*", "");
        for (String b : BANNED) {
            Matcher m = Pattern.compile(b).matcher(code);
            must(!m.find(), "no " + b + " in the source");
        }
        must(!Pattern.compile("\"\\s*\\+|\\+\\s*\"").matcher(code).find(), "no texts joined by +");
        methodsAreShort(code);
    }

    /** The face as the document writes it: each signature with its names, in its order; and what stands ahead of which. */
    private static void document() throws Exception {
        String doc = Files.readString(Path.of("../shared/DOC.md"));
        String source = Files.readString(Path.of("src/main/java/HillPaths.java"));
        Matcher face = Pattern.compile("(?s)```java\n(.*?)```").matcher(doc);
        must(face.find(), "the document has a face");
        int methods = 0, at = 0;
        for (String line : face.group(1).split("\n")) {
            String head = line.trim().replaceAll(";$", "");
            if (head.contains(" static final ")) {
                for (String constant : head.replaceAll("^.* int ", "").split(", ")) {
                    must(source.replaceAll("\\s+", " ").contains(constant), "the source has " + constant);
                }
            } else if (head.startsWith("public int ")) {
                int found = source.indexOf("    " + head + " {\n");
                must(found > at, "the source has, in the document's order: " + head);
                at = found;
                methods++;
            }
        }
        must(methods == METHODS.length, "the document has " + METHODS.length + " methods, not " + methods);
        Matcher ahead = Pattern.compile("Ahead of the calls `(\\w+)`.*, `(\\w+)` the interface says: (.*)[.]").matcher(doc);
        int parts = 0;
        while (ahead.find()) {
            int comment = source.indexOf("// " + ahead.group(3) + "\n");
            int first = source.indexOf(" int " + ahead.group(1) + "("), last = source.indexOf(" int " + ahead.group(2) + "(");
            int next = source.indexOf("    // ----", comment + 1);
            must(comment >= 0 && comment < first && last < next, ahead.group(3) + " stands ahead of its calls alone");
            parts++;
        }
        must(parts == 6, "the document names six parts, not " + parts);
    }

    /** Lines of each method: from its head, four or eight blanks in, to its closing brace. */
    private static void methodsAreShort(String code) {
        String[] lines = code.split("\n");
        for (int i = 0; i < lines.length; i++) {
            Matcher head = Pattern.compile("^( {4}| {8})(?! )(?!.*\\bclass\\b).*\\) \\{$").matcher(lines[i]);
            if (!head.find()) continue;
            int end = i;
            while (end < lines.length && !lines[end].equals(head.group(1) + "}")) end++;
            must(end - i <= 60, "some sixty lines at most: " + lines[i].trim());
        }
    }
}
