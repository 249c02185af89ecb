import java.lang.reflect.InvocationTargetException;
import java.lang.reflect.Method;
import java.lang.reflect.Modifier;
import java.util.Random;

/** No call may ever throw, for any arguments in any state, nor behind the 512th call. */
public final class NeverThrowsTest {
    private static final int[] ODD = {Integer.MIN_VALUE, Integer.MIN_VALUE + 1, -1000000, -256, -10, -9, -8, -5, -2, -1,
        0, 1, 2, 3, 4, 5, 6, 7, 8, 9, 10, 12, 30, 31, 32, 60, 61, 255, 256, 999, 1 << 30, Integer.MAX_VALUE};
    private static final String[] TEXTS = {"", "b0 1 0;", "b0 60 0;b1 60 3;p0 1 40 0 1;p1 0 40 2 3;c9 9;c1 0;",
        "b0 1 0;b0 1 3;b2 9 1;b4 60 2;b4 9 0;b5 9 0;b6 9 0;b7 9 0;p0 1 9 0 1;p1 2 9 2 3;p2 3 9 1 1;p3 4 9 0 0;"
            + "p3 4 9 3 3;p6 7 9 0 0;c1 1;c2 2;c3 3;c4 4;c9 9;", "c9 9;c9 9;", "b0 1 0;p", "?"};

    public static void main(String[] args) throws Exception {
        Check check = new Check();
        Method[] methods = TreePlanks.class.getDeclaredMethods();
        Random random = new Random(1);
        for (int run = 0; run < 300; run++) {
            TreePlanks x = new TreePlanks();
            for (int call = 0; call < 2000; call++) {
                if (random.nextInt(60) == 0) {
                    Check.typed(x, TEXTS[random.nextInt(TEXTS.length)]);
                    x.tree();
                }
                callByChance(check, x, methods[random.nextInt(methods.length)], random);
            }
        }
        manyGales(check);
        check.finish();
    }

    private static void callByChance(Check check, TreePlanks x, Method m, Random random) throws Exception {
        if (!Modifier.isPublic(m.getModifiers())) {
            return;
        }
        Object[] given = new Object[m.getParameterCount()];
        for (int i = 0; i < given.length; i++) {
            given[i] = random.nextInt(4) == 0 ? ODD[random.nextInt(ODD.length)] : random.nextInt(8);
        }
        try {
            m.invoke(x, given);
        } catch (InvocationTargetException e) {
            check.holds(m.getName() + java.util.Arrays.toString(given) + " threw " + e.getCause(), false);
        }
    }

    /** More calls than an object is promised for, as 999 GALES can't be reached otherwise. */
    private static void manyGales(Check check) {
        TreePlanks x = Check.planted(TEXTS[2]);
        for (int i = 0; i < 999; i++) {
            check.holds("gale " + i, x.gale(1) >= 0);
        }
        check.due("gales", x.now(4), 999);
        check.due("the 1000th", x.gale(1), TreePlanks.STATE);
        check.due("the 1000th, wrong", x.gale(0), TreePlanks.BAD);
        check.due("known still", x.undo(), 9);
        check.due("999 once more", x.gale(9) >= 0 ? x.now(4) : -1, 999);
    }
}
