import java.lang.reflect.Method;
import java.util.ArrayList;
import java.util.Comparator;
import java.util.List;
import java.util.Random;

/** Runs of calls by chance (the same ones each time) on a TreePlanks and on a Model: both must answer alike. */
public final class ModelTest {
    private static final int RUNS = 400;
    private static final int CALLS = 512;

    public static void main(String[] args) throws Exception {
        Check check = new Check();
        List<Method> methods = face();
        for (int run = 0; run < RUNS; run++) {
            new ModelTest(run).compare(check, methods);
        }
        texts(check);
        check.finish();
    }

    private final Random random;
    private final TreePlanks x = new TreePlanks();
    private final Model model = new Model();
    private final int run;
    private int calls = 0;

    private ModelTest(int run) {
        this.run = run;
        this.random = new Random(run);
    }

    private static List<Method> face() {
        List<Method> methods = new ArrayList<>(List.of(TreePlanks.class.getDeclaredMethods()));
        methods.removeIf(m -> !java.lang.reflect.Modifier.isPublic(m.getModifiers()));
        methods.sort(Comparator.comparing(Method::getName));
        return methods;
    }

    private void compare(Check check, List<Method> methods) throws Exception {
        plant(check);
        while (calls < CALLS) {
            if (random.nextInt(150) == 0) {
                plant(check);
            }
            Method m = methods.get(random.nextInt(methods.size()));
            boolean dear = m.getName().equals("most") || m.getName().equals("richest") || m.getName().equals("odds");
            boolean rare = m.getName().equals("tree") || m.getName().equals("back") || m.getName().equals("forget");
            if ((dear && random.nextInt(12) != 0) || (rare && random.nextInt(6) != 0)) {
                continue;
            }
            call(check, m);
        }
        for (int p = 0; p < 6; p++) {
            for (int e = 0; e < 2; e++) {
                for (int what = 0; what < 3; what++) {
                    check.due("run " + run + " at its end: end", x.end(p, e, what), model.end(p, e, what));
                }
            }
        }
    }

    private void call(Check check, Method m) throws Exception {
        Object[] given = new Object[m.getParameterCount()];
        for (int i = 0; i < given.length; i++) {
            given[i] = number(m.getName(), i);
        }
        Method same = Model.class.getDeclaredMethod(m.getName(), m.getParameterTypes());
        long got = ((Number) m.invoke(x, given)).longValue();
        long want = ((Number) same.invoke(model, given)).longValue();
        calls++;
        check.due("run " + run + ", call " + calls + ": " + m.getName() + java.util.Arrays.toString(given), got, want);
    }

    /** Mostly a number that may stand there, now and then one just beside it. */
    private int number(String name, int i) {
        if (random.nextInt(40) == 0) {
            return random.nextInt(80) - 15;
        }
        String place = name + i;
        switch (place) {
            case "type0":
                return random.nextInt(256);
            case "gale0": case "firstOut0": case "holdsFor0": case "bolts0":
                return random.nextInt(3) > 0 ? 1 + random.nextInt(4) : 1 + random.nextInt(9);
            case "bolts1":
                return 1 + random.nextInt(30);
            case "odds2":
                return random.nextInt(random.nextInt(4) == 0 ? 7 : 5);
            case "hoist1":
                return 1 + random.nextInt(12);
            case "test1":
                return 1 + random.nextInt(42);
            case "stands1":
                return random.nextInt(5) == 0 ? -9 : random.nextInt(6);
            case "most0": case "richest0":
                return random.nextInt(3) == 0 ? -9 : random.nextInt(5);
            case "orders0":
                return random.nextInt(8) - 1;
            case "end1": case "join1": case "odds1": case "test2": case "keep0": case "back0": case "ask0":
                return random.nextInt(2);
            case "end2": case "firstOut1": case "bolts2": case "odds3": case "join2":
                return random.nextInt(name.equals("join") ? 4 : name.equals("end") ? 3 : 2);
            default:
                return random.nextInt(6);
        }
    }

    private void plant(Check check) {
        x.clear();
        model.clear();
        String text = randomText(random);
        for (int i = 0; i < text.length(); i++) {
            check.due("type", x.type(text.charAt(i)), model.type(text.charAt(i)));
        }
        check.due("run " + run + ": tree of '" + text + "'", x.tree(), model.tree());
    }

    private static String randomText(Random random) {
        StringBuilder text = new StringBuilder();
        int boughs = 2 + random.nextInt(7);
        int strong = 3 + random.nextInt(58);
        int[] height = new int[boughs];
        for (int b = 0; b < boughs; b++) {
            height[b] = random.nextInt(3) + (random.nextInt(9) == 0 ? 2 : 8);
            item(text, 'b', height[b], 1 + random.nextInt(strong), random.nextInt(4));
        }
        int planks = random.nextInt(7);
        for (int p = 0, tries = 0; p < planks && tries < 99; tries++) {
            int a = random.nextInt(boughs);
            int b = random.nextInt(boughs);
            if (a != b && Math.abs(height[a] - height[b]) <= 2) {
                int holds = 1 + random.nextInt(random.nextBoolean() ? 12 : 40);
                item(text, 'p', a, b, holds, random.nextInt(4), random.nextInt(4));
                p++;
            }
        }
        int children = random.nextInt(6);
        for (int c = 0; c < children; c++) {
            item(text, 'c', 1 + random.nextInt(9), random.nextInt(random.nextBoolean() ? 10 : 3));
        }
        return text.toString();
    }

    private static void item(StringBuilder text, char mark, int... numbers) {
        text.append(mark);
        for (int i = 0; i < numbers.length; i++) {
            text.append(i == 0 ? "" : " ").append(numbers[i]);
        }
        text.append(';');
    }

    /** Texts with one letter or some changed, left out or cut off: FAULTS everywhere. */
    private static void texts(Check check) {
        Random random = new Random(7);
        String letters = "bpc;0123456789  xB\t";
        for (int i = 0; i < 30000; i++) {
            StringBuilder text = new StringBuilder(randomText(random));
            int changes = random.nextInt(4);
            for (int k = 0; k < changes && text.length() > 0; k++) {
                int at = random.nextInt(text.length());
                char letter = letters.charAt(random.nextInt(letters.length()));
                switch (random.nextInt(4)) {
                    case 0: text.setCharAt(at, letter); break;
                    case 1: text.insert(at, letter); break;
                    case 2: text.deleteCharAt(at); break;
                    default: text.setLength(random.nextInt(3) == 0 ? at : text.length());
                }
            }
            TreePlanks x = Check.typed(new TreePlanks(), text.toString());
            Model model = new Model();
            for (int k = 0; k < text.length(); k++) {
                model.type(text.charAt(k));
            }
            check.due("tree of '" + text + "'", x.tree(), model.tree());
            for (int what = 0; what <= 5; what++) {
                check.due("count behind '" + text + "'", x.count(what), model.count(what));
            }
        }
    }
}
