import java.lang.management.ManagementFactory;
import java.lang.reflect.Array;
import java.lang.reflect.Field;
import java.lang.reflect.Modifier;

/** All calls of one run share one room of objects and elements: objects stay small, and calls make nothing. */
public final class RoomTest {
    private static final String FULL_TREE = "b9 20 0;b10 20 1;b10 20 3;b11 20 2;b9 3 0;b9 3 3;b9 3 1;b9 9 2;"
        + "p0 1 30 1 1;p1 2 30 2 2;p2 3 30 3 3;p0 2 30 1 3;p1 3 30 0 2;p0 3 30 2 0;c9 1;c9 2;c9 3;c9 4;c9 5;";
    private static int objects = 0;
    private static int cells = 0;

    public static void main(String[] args) throws Exception {
        Check check = new Check();
        measure(new TreePlanks());
        System.out.println("an object is " + objects + " objects and arrays, " + cells + " fields and elements");
        check.holds("too many objects: " + objects, objects <= 120);
        check.holds("too many fields and elements: " + cells, cells <= 3000);
        TreePlanks x = new TreePlanks();
        allCalls(x);
        var threads = (com.sun.management.ThreadMXBean) ManagementFactory.getThreadMXBean();
        long me = Thread.currentThread().getId();
        long ahead = threads.getThreadAllocatedBytes(me);
        for (int i = 0; i < 100; i++) {
            allCalls(x);
        }
        long made = threads.getThreadAllocatedBytes(me) - ahead;
        // the machine itself makes a little; a thousand letters a round would show at once
        check.holds("calls make objects: " + made + " bytes", made < 20000);
        check.finish();
    }

    private static void measure(Object o) throws Exception {
        objects++;
        if (o.getClass().isArray()) {
            cells += Array.getLength(o);
            for (int i = 0; i < Array.getLength(o) && !o.getClass().getComponentType().isPrimitive(); i++) {
                measure(Array.get(o, i));
            }
            return;
        }
        for (Field f : o.getClass().getDeclaredFields()) {
            if (!Modifier.isStatic(f.getModifiers())) {
                cells++;
                f.setAccessible(true);
                if (!f.getType().isPrimitive()) {
                    measure(f.get(o));
                }
            }
        }
    }

    private static void allCalls(TreePlanks x) {
        for (int i = 0; i < FULL_TREE.length(); i++) {
            x.type(FULL_TREE.charAt(i));
        }
        x.tree();
        for (int i = -1; i < 7; i++) {
            x.stands(i, i);
            x.bough(i, 3);
            x.plank(i, 3);
            x.end(i, 0, 1);
            x.child(i, 0);
            x.now(i);
            x.gale(i);
            x.join(i, 0, 1);
            x.spring();
            x.undo();
            x.most(i);
            x.richest(i);
            x.firstOut(i, 1);
            x.holdsFor(i);
            x.bolts(i, 3, 1);
            x.odds(i, 0, 6, 0);
            x.orders(i);
            x.barred();
            x.hoist(i, 9);
            x.test(i, 9, 0);
            x.mayBe();
            x.ask(1);
            x.forget();
            x.rate(i, 0);
            x.keep(i);
            x.back(i);
            x.count(i);
            x.trace();
            x.clear();
        }
    }
}
