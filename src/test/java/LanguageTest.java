import java.lang.reflect.Constructor;
import java.lang.reflect.Field;
import java.lang.reflect.Method;
import java.lang.reflect.Modifier;
import java.nio.file.Files;
import java.nio.file.Path;
import java.util.ArrayList;
import java.util.List;
import java.util.Set;
import java.util.TreeSet;
import java.util.regex.Matcher;
import java.util.regex.Pattern;

/** The face of the document, and the rules of LANGUAGE.md that the class and its source show. */
public final class LanguageTest {
    private static final String[] FACE = {"int type(int)", "int clear()", "int tree()", "int bough(int,int)",
        "int plank(int,int)", "int end(int,int,int)", "int child(int,int)", "int now(int)", "int stands(int,int)",
        "int gale(int)", "int join(int,int,int)", "int spring()", "int undo()", "int most(int)", "int richest(int)",
        "int firstOut(int,int)", "int holdsFor(int)", "int bolts(int,int,int)", "long odds(int,int,int,int)",
        "int orders(int)", "int barred()", "int hoist(int,int)", "int test(int,int,int)", "int forget()",
        "int mayBe()", "int ask(int)", "int rate(int,int)", "int keep(int)", "int back(int)", "int count(int)",
        "long trace()"};
    private static final Check CHECK = new Check();

    public static void main(String[] args) throws Exception {
        face();
        classesInside();
        String source = Files.readString(Path.of("src/main/java/TreePlanks.java"));
        words(bare(source));
        methods(bare(source));
        CHECK.finish();
    }

    private static void face() {
        Set<String> due = new TreeSet<>(List.of(FACE));
        Set<String> found = new TreeSet<>();
        Set<String> names = new TreeSet<>();
        for (Method m : TreePlanks.class.getDeclaredMethods()) {
            if (!Modifier.isPrivate(m.getModifiers())) {
                found.add(signature(m));
                names.add(m.getName());
            }
        }
        CHECK.holds("rule 1: the methods are " + found, found.equals(due));
        Set<String> constants = new TreeSet<>();
        for (Field f : TreePlanks.class.getDeclaredFields()) {
            if (!Modifier.isPrivate(f.getModifiers())) {
                constants.add(f.getName());
            }
        }
        CHECK.holds("rule 1: the constants are " + constants,
            constants.equals(new TreeSet<>(List.of("BAD", "STATE", "FULL", "NONE", "NO"))));
        Constructor<?>[] makers = TreePlanks.class.getDeclaredConstructors();
        CHECK.holds("rule 1: one constructor", makers.length == 1 && makers[0].getParameterCount() == 0
            && Modifier.isPublic(makers[0].getModifiers()));
        CHECK.holds("rule 1: public and final", (TreePlanks.class.getModifiers() & (Modifier.PUBLIC | Modifier.FINAL))
            == (Modifier.PUBLIC | Modifier.FINAL));
        for (Class<?> c : all()) {
            for (Method m : c.getDeclaredMethods()) {
                boolean own = c == TreePlanks.class && !Modifier.isPrivate(m.getModifiers());
                CHECK.holds("rule 1: " + m + " bears the name of a public one", own || !names.contains(m.getName()));
                CHECK.holds("rule 11: parameters of " + m, m.getParameterCount() <= 7);
                CHECK.holds("rule 6: " + m, !Set.of("equals", "hashCode", "toString").contains(m.getName()));
            }
        }
    }

    private static String signature(Method m) {
        List<String> types = new ArrayList<>();
        for (Class<?> t : m.getParameterTypes()) {
            types.add(t.getName());
        }
        return m.getReturnType().getName() + " " + m.getName() + "(" + String.join(",", types) + ")";
    }

    private static List<Class<?>> all() {
        List<Class<?>> all = new ArrayList<>(List.of(TreePlanks.class.getDeclaredClasses()));
        all.add(TreePlanks.class);
        return all;
    }

    private static void classesInside() {
        CHECK.holds("rule 11: at most twelve classes", all().size() <= 12);
        for (Class<?> c : all()) {
            int fields = 0;
            for (Field f : c.getDeclaredFields()) {
                boolean still = Modifier.isStatic(f.getModifiers());
                fields += still ? 0 : 1;
                CHECK.holds("rule 5: " + f, !still || Modifier.isFinal(f.getModifiers()));
            }
            CHECK.holds("rule 11: fields of " + c, fields <= 20);
            CHECK.holds("rule 2: " + c + " is static", c == TreePlanks.class || Modifier.isStatic(c.getModifiers()));
            CHECK.holds("rule 2: no class inside a class inside",
                c == TreePlanks.class || c.getDeclaredClasses().length == 0);
        }
    }

    /** The source without comments, its texts and signs emptied. */
    private static String bare(String source) {
        return source.replaceAll("(?s)/\\*.*?\\*/", "").replaceAll("//[^\n]*", "")
            .replaceAll("\"[^\"\n]*\"", "\"\"").replaceAll("'[^'\n]+'", "'x'");
    }

    private static void words(String source) {
        for (String word : new String[] {"throw", "throws", "try", "catch", "synchronized", "assert", "package",
            "Object", "protected", "Exact", "System\\.(?!arraycopy)", "->", "::", "import"}) {
            Matcher m = Pattern.compile(word.matches("\\w+") ? "\\b" + word + "\\b" : word).matcher(source);
            CHECK.holds("the word " + word, !m.find());
        }
        CHECK.holds("rule 4: Exact", !Pattern.compile("\\w+Exact\\b").matcher(source).find());
        Matcher library = Pattern.compile("\\b(Math|Integer|Long|System|Arrays)\\.(\\w+)").matcher(source);
        Set<String> allowed = Set.of("abs", "max", "min", "bitCount", "numberOfTrailingZeros", "arraycopy");
        while (library.find()) {
            CHECK.holds("rule 4: " + library.group(), allowed.contains(library.group(2)));
        }
    }

    /** A method begins where its braces do and ends where they close at the same depth. */
    private static void methods(String source) {
        String[] lines = source.split("\n");
        Pattern head = Pattern.compile("^( {4}| {8})(?=\\S)(?!(?:if|for|while|switch|else|return)\\b)"
            + "[\\w\\[\\]<> ]+\\([^;]*\\) \\{$");
        int found = 0;
        for (int i = 0; i < lines.length; i++) {
            Matcher m = head.matcher(lines[i]);
            if (!m.matches()) {
                continue;
            }
            found++;
            int j = i;
            while (!lines[j].equals(m.group(1) + "}")) {
                j++;
            }
            CHECK.holds("rule 11: " + (j - i + 1) + " lines: " + lines[i].trim(), j - i + 1 <= 60);
        }
        CHECK.holds("methods are found", found > 60);
    }
}
