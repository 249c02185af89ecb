import java.util.function.IntBinaryOperator;
import java.util.function.IntUnaryOperator;

/** Promise by promise, sentence by sentence: the edges that each names, and every number that is not as told. */
public final class EdgesTest {
    private static final int BAD = TreePlanks.BAD, STATE = TreePlanks.STATE, FULL = TreePlanks.FULL;
    private static final int NONE = TreePlanks.NONE, NO = TreePlanks.NO, ON_NONE = -5;
    private static final Check CHECK = new Check();

    /** Three BOUGHS of SWAY 0, 2, 3; PLANKS 0-1, 1-2, 0-2; three CHILDREN. */
    private static final String SMALL = "b9 10 0;b9 6 2;b11 8 3;p0 1 7 1 2;p1 2 12 0 3;p0 2 4 1 1;c3 5;c4 2;c6 0;";
    /** As many of all as there may be. */
    private static final String GREAT = "b0 9 0;b1 9 1;b2 9 2;b1 9 3;b0 9 0;b0 9 0;b0 9 0;b20 60 3;p0 1 9 0 1;"
            + "p1 2 9 2 3;p2 3 9 1 0;p3 4 9 3 2;p4 5 9 1 1;p5 6 40 2 3;c1 9;c2 8;c3 7;c4 6;c9 0;";

    private static Sentences told = Sentences.ofPromise(CHECK, 1);

    public static void main(String[] args) {
        newObject();
        type();
        typeRefuses();
        clear();
        tree();
        treeOfAFault();
        bough();
        boughRefuses();
        plank();
        plankRefuses();
        end();
        endRefuses();
        child();
        childRefuses();
        now();
        nowCounts();
        nowRefuses();
        stands();
        standsRefuses();
        gale();
        galeRefuses();
        join();
        joinRefuses();
        spring();
        undo();
        undoRefuses();
        most();
        mostRefuses();
        richest();
        richestRefuses();
        firstOut();
        firstOutRefuses();
        holdsFor();
        holdsForRefuses();
        bolts();
        boltsRefuses();
        odds();
        oddsRefuses();
        orders();
        ordersRefuses();
        barred();
        hoist();
        hoistRefuses();
        test();
        testRefuses();
        forget();
        mayBe();
        ask();
        askRefuses();
        rate();
        rateRefuses();
        keep();
        keepRefuses();
        back();
        backRefuses();
        count();
        countRefuses();
        trace();
        told.finish();
        CHECK.finish();
    }

    private static void promise(int number) {
        told.finish();
        told = Sentences.ofPromise(CHECK, number);
    }

    private static void due(String what, long got, long want) {
        told.due(what, got, want);
    }

    /** Each of these numbers, and each that is wrong everywhere, is refused. */
    private static void refused(String call, IntUnaryOperator f, int... near) {
        for (int n : Check.wrong(near)) {
            due(call + " of " + n, f.applyAsInt(n), BAD);
        }
    }

    /** Each number of the first, with each of the second: refused, as one of the two is wrong at least. */
    private static void bothRefused(String call, IntBinaryOperator f, int[] first, int[] second) {
        for (int n : first) {
            for (int m : second) {
                due(call + " of " + n + ", " + m, f.applyAsInt(n, m), BAD);
            }
        }
    }

    private static void newObject() {
        told.says("As told; a bare tree.");
        TreePlanks x = new TreePlanks();
        for (int what = 0; what <= 5; what++) {
            due("count " + what, x.count(what), 0);
        }
        due("it HOLDS all", x.now(0), 1);
        for (int what = 1; what <= 3; what++) {
            due("now " + what, x.now(what), NONE);
        }
        due("GALES", x.now(4), 0);
        due("to be UNDONE", x.now(5), 0);
        due("undo", x.undo(), STATE);
        due("THE TRACE", x.trace(), 0);
        due("IMAGE 0", x.back(0), STATE);
        due("IMAGE 1", x.back(1), STATE);
        due("clear", x.clear(), 0);
        due("forget", x.forget(), 0);
        due("no BOUGH", x.bough(0, 0), BAD);
        due("no PLANK", x.plank(0, 0), BAD);
        due("no END", x.end(0, 0, 0), BAD);
        due("no child", x.child(0, 0), BAD);
        due("nobody STANDS", x.stands(0, NONE), BAD);
        due("nothing to join", x.join(0, 0, 0), BAD);
        due("nothing to TEST", x.test(0, 1, 0), BAD);
        due("no odds", x.odds(0, 0, 0, 0), BAD);
        due("nobody to rate", x.rate(0, 0), NO);
        due("MOST", x.most(NONE), 0);
        due("RICHEST", x.richest(NONE), 0);
        due("MOST of none", x.most(0), BAD);
        due("a GALE", x.gale(9), 0);
        due("a SPRING", x.spring(), 0);
        due("another object is bare still", new TreePlanks().now(4), 0);
    }

    private static void type() {
        promise(2);
        told.says("A letter (0 .. 255) comes to THE TEXT: how many it has.");
        TreePlanks x = new TreePlanks();
        due("0", x.type(0), 1);
        due("255", x.type(255), 2);
        due("127", x.type(127), 3);
        due("128", x.type(128), 4);
        due("count", x.count(5), 4);
    }

    private static void typeRefuses() {
        told.says("BAD; FULL.");
        TreePlanks y = new TreePlanks();
        refused("type", y::type, -1);
        due("none came", y.count(5), 0);
        for (int i = 1; i <= 200; i++) {
            due("letter " + i, y.type('b'), i);
        }
        due("the 201st", y.type('b'), FULL);
        due("the 201st, a blank", y.type(' '), FULL);
        refused("type to a full text", y::type, -1);
        due("letters", y.count(5), 200);
        y.clear();
        due("room again", y.type('b'), 1);
    }

    private static void clear() {
        promise(3);
        told.says("THE TEXT is empty: how many letters it had.");
        TreePlanks x = Check.planted(SMALL);
        due("empty", x.clear(), 0);
        Check.typed(x, "b0 1 0;");
        due("seven", x.clear(), 7);
        due("again", x.clear(), 0);
        due("count", x.count(5), 0);
        due("the tree stays", x.count(0), 3);
        Check.typed(x, " ".repeat(200));
        due("a full one", x.clear(), 200);
        Check.typed(x, "c1 1;");
        due("nothing of it is left", x.tree(), 1);
    }

    private static void tree() {
        promise(4);
        told.says("THE TEXT tells all anew, and is empty then: how many ITEMS.");
        TreePlanks x = Check.typed(new TreePlanks(), GREAT);
        due("the most of all", x.tree(), 19);
        due("letters", x.count(5), 0);
        due("an empty text", x.tree(), 0);
        due("a bare tree", x.count(0) + x.count(1) + x.count(2), 0);
        Check.typed(x, "   ");
        due("blanks alone", x.tree(), 0);
        due("letters", x.count(5), 0);
        due("a bare tree", x.count(0) + x.count(1) + x.count(2), 0);
        Check.typed(x, "c1 1;");
        due("one child", x.tree(), 1);
        due("no BOUGHS", x.count(0), 0);
        due("no PLANKS", x.count(1), 0);
        due("child 0", x.count(2), 1);
    }

    private static void treeOfAFault() {
        told.says("-10 less FAULT: nothing changes.");
        TreePlanks y = Check.planted(SMALL);
        y.stands(0, 0);
        y.gale(5);
        y.test(0, 1, 0);
        y.keep(1);
        Check.typed(y, "b0 1 0;b0 1 0;p0 1 9 1 1;c1 1;?");
        String seen = Check.seen(y);
        due("FAULT 30", y.tree(), -10 - 30);
        told.same("all as it was", Check.seen(y), seen);
        due("once more", y.tree(), -10 - 30);
        due("the IMAGE stays", y.back(1), 1);
        Check.typed(y, "x");
        due("THE TEXT stays", y.clear(), 32);
        Check.typed(y, "b3 1 0;");
        due("what was told ahead of a FAULT is not told", y.tree(), 1);
        due("one BOUGH", y.count(0), 1);
        due("no PLANKS", y.count(1), 0);
        due("no CHILDREN", y.count(2), 0);
        due("its HEIGHT", y.bough(0, 0), 3);
        due("FAULT 0", Check.typed(new TreePlanks(), "x").tree(), -10);
        due("FAULT 200", Check.typed(new TreePlanks(), "b" + " ".repeat(199)).tree(), -210);
    }

    private static void bough() {
        promise(5);
        told.says("Of a BOUGH: 0 HEIGHT, 1 STRONG, 2 SWAY, 3 what it BEARS.");
        TreePlanks x = Check.planted(GREAT);
        due("the last, HEIGHT", x.bough(7, 0), 20);
        due("the last, STRONG", x.bough(7, 1), 60);
        due("the last, SWAY", x.bough(7, 2), 3);
        due("the last, BEARS", x.bough(7, 3), 0);
        due("the first, HEIGHT", x.bough(0, 0), 0);
        x.stands(4, 0);
        due("the first, BEARS", x.bough(0, 3), 5);
        due("the second, BEARS", x.bough(1, 3), 4);
    }

    private static void boughRefuses() {
        told.says("BAD.");
        TreePlanks x = Check.planted(GREAT);
        refused("BOUGH", b -> x.bough(b, 0), -1, 8, NONE);
        refused("what", what -> x.bough(0, what), -1, 4, NONE);
        TreePlanks y = Check.planted(SMALL);
        refused("BOUGH of three", b -> y.bough(b, 3), -1, 3, 7);
        bothRefused("both", y::bough, new int[] {-1, 3}, new int[] {-1, 0, 3, 4});
    }

    private static void plank() {
        promise(6);
        told.says("Of a PLANK: 0, 1 its BOUGHS, 2 HOLDS, 3 its LOAD.");
        TreePlanks x = Check.planted(GREAT);
        due("the last, at", x.plank(5, 0), 5);
        due("the last, to", x.plank(5, 1), 6);
        due("the last, HOLDS", x.plank(5, 2), 40);
        due("the last, LOAD", x.plank(5, 3), 0);
        x.stands(0, 5);
        x.stands(4, 5);
        due("the last, LOAD", x.plank(5, 3), 10);
        due("the first, at", x.plank(0, 0), 0);
        due("the first, to", x.plank(0, 1), 1);
    }

    private static void plankRefuses() {
        told.says("BAD.");
        TreePlanks x = Check.planted(GREAT);
        refused("PLANK", p -> x.plank(p, 0), -1, 6, NONE);
        refused("what", what -> x.plank(0, what), -1, 4, NONE);
        TreePlanks y = Check.planted(SMALL);
        refused("PLANK of three", p -> y.plank(p, 3), -1, 3, 5);
        bothRefused("both", y::plank, new int[] {-1, 3}, new int[] {-1, 0, 3, 4});
    }

    private static void end() {
        promise(7);
        told.says("Of an END of a PLANK: 0 as what it is laid, 1 WEAR, 2 whether it is OUT.");
        TreePlanks x = Check.planted(GREAT);
        due("the first", x.end(0, 0, 0), 0);
        due("the last", x.end(5, 1, 0), 3);
        x.gale(7);
        due("WEAR of the first", x.end(0, 0, 1), 0);
        due("OUT", x.end(0, 0, 2), 1);
        due("WEAR of its other END", x.end(0, 1, 1), 7);
        due("not OUT", x.end(0, 1, 2), 0);
        due("WEAR of the last, BOUGHS alike", x.end(5, 1, 1), 0);
    }

    private static void endRefuses() {
        told.says("BAD.");
        TreePlanks x = Check.planted(GREAT);
        refused("PLANK", p -> x.end(p, 0, 0), -1, 6, NONE);
        refused("END", e -> x.end(0, e, 0), -1, 2, NONE);
        refused("what", what -> x.end(0, 0, what), -1, 3, NONE);
        // the place of another END in a row of them is no END of this PLANK
        due("END 2 of PLANK 0", x.end(0, 2, 1), BAD);
        due("END -1 of PLANK 1", x.end(1, -1, 1), BAD);
        TreePlanks y = Check.planted(SMALL);
        refused("PLANK of three", p -> y.end(p, 1, 1), -1, 3, 5);
    }

    private static void child() {
        promise(8);
        told.says("Of a child: 0 WEIGHT, 1 PAID, 2 the PLANK it STANDS on (NONE).");
        TreePlanks x = Check.planted(GREAT);
        due("the last, WEIGHT", x.child(4, 0), 9);
        due("the last, PAID", x.child(4, 1), 0);
        due("the last, on none", x.child(4, 2), NONE);
        due("the first, PAID", x.child(0, 1), 9);
        x.stands(4, 5);
        due("the last, on the last", x.child(4, 2), 5);
        x.stands(4, NONE);
        due("on none again", x.child(4, 2), NONE);
    }

    private static void childRefuses() {
        told.says("BAD.");
        TreePlanks x = Check.planted(GREAT);
        refused("child", c -> x.child(c, 0), -1, 5, NONE);
        refused("what", what -> x.child(0, what), -1, 3, NONE);
        TreePlanks y = Check.planted(SMALL);
        refused("child of three", c -> y.child(c, 2), -1, 3, 4);
        bothRefused("both", y::child, new int[] {-1, 3}, new int[] {-1, 0, 2, 3});
    }

    private static void now() {
        promise(9);
        told.says("0 whether it HOLDS all, 1 the first PLANK with too much LOAD (NONE),"
                + " 2 the first BOUGH that BEARS too much (NONE),"
                + " 3 the first PLANK with a LOAD and an END that is OUT (NONE),");
        TreePlanks x = Check.planted("b0 9 0;b0 4 3;b0 4 0;p0 1 5 1 1;p1 2 5 0 1;p2 1 9 3 3;c6 0;c6 0;c9 0;");
        nowIs(x, 1, NONE, NONE, NONE);
        x.stands(1, 1);
        nowIs(x, 0, 1, NONE, NONE);
        x.stands(0, 0);
        // BOUGH 1: 3 and 3 of 4
        nowIs(x, 0, 0, 1, NONE);
        x.stands(0, NONE);
        x.stands(1, NONE);
        x.stands(2, 2);
        // BOUGH 2: 5 of 4
        nowIs(x, 0, NONE, 2, NONE);
        x.gale(7);
        nowIs(x, 0, NONE, 2, NONE);
        x.stands(1, 1);
        nowIs(x, 0, 1, 1, 1);
        x.stands(0, 0);
        nowIs(x, 0, 0, 1, 0);
        x.stands(0, NONE);
        x.stands(1, NONE);
        x.stands(2, NONE);
        // OUT, but no LOAD
        nowIs(x, 1, NONE, NONE, NONE);
        nowTellsTheLast();
    }

    private static void nowTellsTheLast() {
        TreePlanks x = Check.planted("b0 9 0;".repeat(7) + "b0 4 3;" + "p0 1 9 3 3;".repeat(5) + "p7 0 8 1 1;c9 0;");
        nowIs(x, 1, NONE, NONE, NONE);
        x.stands(0, 4);
        nowIs(x, 1, NONE, NONE, NONE);
        x.stands(0, 5);
        nowIs(x, 0, 5, 7, NONE);
        x.gale(4);
        nowIs(x, 0, 5, 7, 5);
    }

    private static void nowIs(TreePlanks x, int holds, int laden, int bent, int out) {
        due("HOLDS all", x.now(0), holds);
        due("too much LOAD", x.now(1), laden);
        due("BEARS too much", x.now(2), bent);
        due("a LOAD and OUT", x.now(3), out);
    }

    private static void nowCounts() {
        told.says("4 GALES, 5 how many may be UNDONE.");
        TreePlanks x = Check.planted(SMALL);
        due("GALES", x.now(4), 0);
        due("to be UNDONE", x.now(5), 0);
        for (int i = 1; i <= 12; i++) {
            x.gale(1);
            due("GALES", x.now(4), i);
            due("to be UNDONE, ten at most", x.now(5), Math.min(i, 10));
        }
    }

    private static void nowRefuses() {
        told.says("BAD.");
        TreePlanks x = Check.planted(SMALL);
        refused("what", x::now, -1, 6, NONE);
    }

    private static void stands() {
        promise(10);
        told.says("A child STANDS on a PLANK (NONE: on none): where it stood.");
        TreePlanks x = Check.planted(GREAT);
        due("at first", x.stands(4, 5), NONE);
        due("on the last", x.stands(4, 0), 5);
        due("where it is", x.stands(4, 0), 0);
        due("to none", x.stands(4, NONE), 0);
        due("to none again", x.stands(4, NONE), NONE);
        due("all are known", x.now(5), 5);
        x.gale(9);
        due("on a PLANK whose END is OUT", x.stands(0, 0), NONE);
        due("it is there", x.child(0, 2), 0);
    }

    private static void standsRefuses() {
        told.says("BAD.");
        TreePlanks x = Check.planted(GREAT);
        refused("child", c -> x.stands(c, 0), -1, 5, NONE);
        refused("PLANK", p -> x.stands(1, p), -1, -8, -10, -5, 6);
        TreePlanks y = Check.planted("c1 1;");
        due("no PLANKS: on none", y.stands(0, NONE), NONE);
        due("no PLANKS", y.stands(0, 0), BAD);
        due("no such child, on none", y.stands(1, NONE), BAD);
        due("just one is known", y.now(5), 1);
    }

    private static void gale() {
        promise(11);
        told.says("A GALE: how many ENDS are OUT then.");
        TreePlanks x = Check.planted("b0 9 0;b0 9 3;p0 1 9 1 1;p0 1 9 0 2;");
        due("none", x.gale(3), 0);
        due("two", x.gale(1), 2);
        due("and one", x.gale(7), 3);
        due("all", x.gale(9), 4);
        due("as before", x.gale(1), 4);
        due("no PLANKS", new TreePlanks().gale(9), 0);
    }

    private static void galeRefuses() {
        told.says("BAD; STATE: 999 blew.");
        TreePlanks x = Check.planted(SMALL);
        refused("force", x::gale, 0, -1, 10, NONE);
        due("GALES", x.now(4), 0);
        // more calls than the document's 512: it promises nothing of them, the class keeps to it all the same
        TreePlanks y = new TreePlanks();
        for (int i = 1; i <= 999; i++) {
            y.gale(1);
        }
        due("the 1000th", y.gale(1), STATE);
        refused("force of the 1000th", y::gale, 0, -1, 10);
        due("GALES", y.now(4), 999);
    }

    private static void join() {
        promise(12);
        told.says("DONE ANEW: as what it was laid.");
        TreePlanks x = Check.planted(GREAT);
        due("the first was LOOSE", x.join(0, 0, 3), 0);
        due("was BOLTED", x.join(0, 0, 0), 3);
        due("the last was BOLTED", x.join(5, 1, 1), 3);
        due("was NAILED", x.join(5, 1, 2), 1);
        due("was ROPED", x.join(5, 1, 2), 2);
        due("all are known", x.now(5), 5);
    }

    private static void joinRefuses() {
        told.says("BAD.");
        TreePlanks x = Check.planted(GREAT);
        refused("PLANK", p -> x.join(p, 0, 0), -1, 6, NONE);
        refused("END", e -> x.join(0, e, 0), -1, 2, NONE);
        refused("kind", kind -> x.join(0, 0, kind), -1, 4, NONE);
        due("none is known", x.now(5), 0);
        TreePlanks y = Check.planted(SMALL);
        refused("PLANK of three", p -> y.join(p, 1, 1), -1, 3, 5);
    }

    private static void spring() {
        promise(13);
        told.says("A SPRING: of how many ENDS WEAR is less.");
        TreePlanks x = Check.planted("b0 9 0;b0 9 1;b0 9 3;p0 1 9 1 1;p0 2 9 1 3;p0 1 9 2 0;");
        due("none", x.spring(), 0);
        x.gale(1);
        due("WEAR 1, 1, 3; BOLTED and ROPED don't count", x.spring(), 3);
        due("WEAR 0, 0, 1", x.spring(), 1);
        due("WEAR 0", x.spring(), 0);
        x.gale(4);
        due("one is OUT", x.count(4), 1);
        due("WEAR 4, 4", x.spring(), 2);
        due("no GALE", x.now(4), 2);
        due("no PLANKS", new TreePlanks().spring(), 0);
    }

    private static void undo() {
        promise(14);
        told.says("UNDONE: how many more may be.");
        TreePlanks x = Check.planted(SMALL);
        x.stands(0, 0);
        x.spring();
        due("of two", x.undo(), 1);
        due("of one", x.undo(), 0);
        for (int i = 0; i < 11; i++) {
            x.spring();
        }
        due("of ten", x.undo(), 9);
    }

    private static void undoRefuses() {
        told.says("STATE: none.");
        TreePlanks x = Check.planted(SMALL);
        for (int i = 0; i < 11; i++) {
            x.gale(1);
        }
        for (int i = 9; i >= 0; i--) {
            due("down to none", x.undo(), i);
        }
        due("none", x.undo(), STATE);
        due("none still", x.undo(), STATE);
        due("a new object", new TreePlanks().undo(), STATE);
        x.gale(0);
        x.stands(0, 3);
        x.join(0, 0, 4);
        due("refused ones are none", x.undo(), STATE);
        x.keep(0);
        x.test(0, 1, 0);
        x.type('b');
        x.rate(0, 0);
        x.forget();
        due("others are none", x.undo(), STATE);
    }

    private static void most() {
        promise(15);
        told.says("MOST: how many (c = NONE), the PLANK of a child (-5: on none).");
        TreePlanks x = Check.planted("b0 60 0;b0 60 0;p0 1 9 1 1;p0 1 4 1 1;c9 0;c5 0;c4 0;");
        due("how many", x.most(NONE), 2);
        due("child 0", x.most(0), 0);
        due("child 1", x.most(1), ON_NONE);
        due("child 2", x.most(2), 1);
    }

    private static void mostRefuses() {
        told.says("BAD.");
        TreePlanks x = Check.planted(SMALL);
        refused("child", x::most, -1, -5, -8, -10, 3);
        TreePlanks y = Check.planted(GREAT);
        refused("child of five", y::most, -1, -5, 5);
        due("no CHILDREN", new TreePlanks().most(0), BAD);
    }

    private static void richest() {
        promise(16);
        told.says("RICHEST: how much (c = NONE), the PLANK of a child (-5: on none).");
        TreePlanks x = Check.planted("b0 60 0;b0 60 0;p0 1 9 1 1;p0 1 4 1 1;c9 2;c5 3;c4 0;");
        due("how much", x.richest(NONE), 3);
        due("child 0", x.richest(0), ON_NONE);
        due("child 1", x.richest(1), 0);
        due("child 2, who paid nothing", x.richest(2), ON_NONE);
    }

    private static void richestRefuses() {
        told.says("BAD.");
        TreePlanks x = Check.planted(SMALL);
        refused("child", x::richest, -1, -5, -8, -10, 3);
        TreePlanks y = Check.planted(GREAT);
        refused("child of five", y::richest, -1, -5, 5);
        due("no CHILDREN", new TreePlanks().richest(0), BAD);
    }

    private static void firstOut() {
        promise(17);
        told.says("FIRST OUT: GALES (what = 0), which END (1); NONE.");
        TreePlanks x = Check.planted("b0 9 0;b0 9 1;p0 1 9 0 3;");
        due("BOLTED behind 36", x.firstOut(3, 0), 36);
        due("END 1", x.firstOut(3, 1), 1);
        due("LOOSE behind 1", x.firstOut(7, 0), 1);
        due("END 0", x.firstOut(7, 1), 0);
        due("never", x.firstOut(1, 0), NONE);
        due("none", x.firstOut(1, 1), NONE);
    }

    private static void firstOutRefuses() {
        told.says("BAD.");
        TreePlanks x = Check.planted(SMALL);
        refused("force", g -> x.firstOut(g, 0), 0, -1, 10, NONE);
        refused("what", what -> x.firstOut(1, what), -1, 2, NONE);
        bothRefused("both", x::firstOut, new int[] {0, 10}, new int[] {-1, 0, 1, 2});
    }

    private static void holdsFor() {
        promise(18);
        told.says("STANDS for; NONE.");
        TreePlanks x = Check.planted("b0 9 0;b0 9 1;p0 1 9 0 3;c9 0;c1 0;");
        due("nobody is there", x.holdsFor(9), NONE);
        x.stands(0, 0);
        due("LOOSE slips", x.holdsFor(7), 1);
        due("BOLTED gives", x.holdsFor(6), 18);
        due("never", x.holdsFor(2), NONE);
        x.stands(1, 0);
        due("not even NOW", x.holdsFor(2), 0);
    }

    private static void holdsForRefuses() {
        told.says("BAD.");
        TreePlanks x = Check.planted(SMALL);
        refused("force", x::holdsFor, 0, -1, 10, NONE);
    }

    private static void bolts() {
        promise(19);
        told.says("BOLTS: those that would be OUT (what = 0), those for which it helps (1), as bits.");
        TreePlanks x = Check.planted("b0 9 0;b0 9 3;b0 9 1;p0 1 9 1 2;p0 2 9 1 2;");
        due("four of 9: 108 and 52, 36 and 16", x.bolts(9, 4, 0), 1 + 2 + 4);
        due("BOLTED: 36, 36, 12", x.bolts(9, 4, 1), 4);
        due("three of 9", x.bolts(9, 3, 1), 1 + 2 + 4);
        due("one of 1: none", x.bolts(1, 1, 0), 0);
        due("30 of 1: 90 and 30, 30 and 0", x.bolts(1, 30, 0), 1 + 2 + 4);
    }

    private static void boltsRefuses() {
        told.says("BAD.");
        TreePlanks x = Check.planted(SMALL);
        refused("force", g -> x.bolts(g, 1, 0), 0, -1, 10, NONE);
        refused("n", n -> x.bolts(1, n, 0), 0, -1, 31, NONE);
        refused("what", what -> x.bolts(1, 1, what), -1, 2, NONE);
    }

    private static void odds() {
        promise(20);
        told.says("ODDS: upper (what = 0), lower number (1), in least terms.");
        TreePlanks x = Check.planted("b0 9 0;b0 9 3;p0 1 9 1 3;p1 0 9 0 2;");
        due("3 of 6", x.odds(0, 0, 1, 0), 1);
        due("3 of 6", x.odds(0, 0, 1, 1), 2);
        due("none of 6 to the 6th", x.odds(0, 0, 6, 0), 0);
        due("none of 6 to the 6th", x.odds(0, 0, 6, 1), 1);
        due("all but one", x.odds(0, 1, 6, 0), 46655);
        due("all but one", x.odds(0, 1, 6, 1), 46656);
        due("all of 6 to the 6th", x.odds(1, 0, 6, 0), 1);
        due("all of 6 to the 6th", x.odds(1, 0, 6, 1), 1);
    }

    private static void oddsRefuses() {
        told.says("BAD; STATE: it is OUT.");
        TreePlanks x = Check.planted("b0 9 0;b0 9 3;p0 1 9 1 3;p1 0 9 0 2;");
        refused("PLANK", p -> (int) x.odds(p, 0, 1, 0), -1, 2, NONE);
        refused("END", e -> (int) x.odds(0, e, 1, 0), -1, 2, NONE);
        refused("n", n -> (int) x.odds(0, 0, n, 0), -1, 7, NONE);
        refused("what", what -> (int) x.odds(0, 0, 1, what), -1, 2, NONE);
        x.gale(4);
        due("OUT, upper", x.odds(0, 0, 1, 0), STATE);
        due("OUT, lower", x.odds(0, 0, 1, 1), STATE);
        due("OUT, no GALE", x.odds(0, 0, 0, 0), STATE);
        due("its other END is not", x.odds(0, 1, 0, 0), 1);
        refused("n of one that is OUT", n -> (int) x.odds(0, 0, n, 0), -1, 7);
        refused("what of one that is OUT", what -> (int) x.odds(0, 0, 1, what), -1, 2);
        x.join(0, 0, 1);
        due("DONE ANEW", x.odds(0, 0, 1, 1), 2);
        x.gale(7);
        due("a LOOSE one that slipped", x.odds(1, 0, 1, 0), STATE);
    }

    private static void orders() {
        promise(21);
        told.says("ORDERS: how many (i = -1), the i-th of the first one (-5: not so many; NONE: no order).");
        TreePlanks x = Check.planted(SMALL);
        due("how many", x.orders(-1), 4);
        due("the first", x.orders(0), 0);
        due("the last", x.orders(2), 2);
        for (int i : new int[] {3, 5, 6, 7, 100, Integer.MAX_VALUE}) {
            due("not so many: " + i, x.orders(i), -5);
        }
        TreePlanks y = Check.planted("b0 9 0;b0 9 0;b0 9 0;p0 1 9 1 1;b0 9 0;p2 3 9 1 1;");
        due("none", y.orders(-1), 0);
        due("no first", y.orders(0), NONE);
        due("no second", y.orders(1), NONE);
        due("one order of no PLANKS", new TreePlanks().orders(-1), 1);
        due("which has no first", new TreePlanks().orders(0), -5);
    }

    private static void ordersRefuses() {
        told.says("BAD.");
        TreePlanks x = Check.planted(SMALL);
        TreePlanks y = Check.planted("b0 9 0;b0 9 0;b0 9 0;p1 2 9 1 1;");
        for (int i : new int[] {-2, -5, NONE, -1000000, Integer.MIN_VALUE}) {
            due("i " + i, x.orders(i), BAD);
            due("i " + i + ", no order", y.orders(i), BAD);
        }
    }

    private static void barred() {
        promise(22);
        told.says("BARRED, as bits.");
        due("a bare tree", new TreePlanks().barred(), 0);
        due("none", Check.planted(SMALL).barred(), 0);
        due("all", Check.planted("b0 9 0;b0 9 0;b0 9 0;" + "p1 2 9 1 1;".repeat(6)).barred(), 63);
        due("the first", Check.planted("b0 9 0;b0 9 0;b0 9 0;b0 9 0;p2 3 9 1 1;p0 1 9 1 1;").barred(), 1);
        TreePlanks x = Check.planted(GREAT);
        x.gale(9);
        due("ENDS that are OUT bar none", x.barred(), 0);
    }

    private static void hoist() {
        promise(23);
        told.says("HOIST, as bits; NONE.");
        TreePlanks x = Check.planted(GREAT);
        due("over the last, 20 high", x.hoist(7, 1), 16);
        due("all five: 14 and 5 are 19", x.hoist(7, 14), 31);
        due("15 and 5 are more than all", x.hoist(7, 15), NONE);
        due("over a BOUGH of 9", x.hoist(0, 4), 8);
        due("5 of 9", x.hoist(0, 5), NONE);
    }

    private static void hoistRefuses() {
        told.says("BAD.");
        TreePlanks x = Check.planted(GREAT);
        refused("BOUGH", b -> x.hoist(b, 1), -1, 8, NONE);
        refused("w", w -> x.hoist(7, w), 0, -1, 61, NONE);
        bothRefused("both", x::hoist, new int[] {-1, 8}, new int[] {0, 1, 60, 61});
        due("60", x.hoist(7, 60), NONE);
        due("BOUGH of three", Check.planted(SMALL).hoist(3, 1), BAD);
    }

    private static void test() {
        promise(24);
        told.says("A TEST (broke 0, 1): how many.");
        TreePlanks x = Check.planted(GREAT);
        due("of the last", x.test(5, 21, 0), 1);
        due("it bore", x.mayBe(), 31);
        due("of the first", x.test(0, 5, 1), 2);
        due("it broke", x.mayBe(), 1);
    }

    private static void testRefuses() {
        told.says("BAD; FULL.");
        TreePlanks x = Check.planted(GREAT);
        refused("PLANK", p -> x.test(p, 1, 0), -1, 6, NONE);
        refused("LOAD", load -> x.test(0, load, 0), 0, -1, 61, NONE);
        refused("broke", broke -> x.test(0, 1, broke), -1, 2, NONE);
        due("none yet", x.count(3), 0);
        for (int i = 1; i <= 6; i++) {
            due("one more", x.test(0, 60, 1), i);
        }
        due("a seventh", x.test(0, 60, 1), FULL);
        refused("PLANK of a seventh", p -> x.test(p, 1, 0), -1, 6);
        refused("LOAD of a seventh", load -> x.test(0, load, 0), 0, 61);
        refused("broke of a seventh", broke -> x.test(0, 1, broke), -1, 2);
        due("six", x.count(3), 6);
        due("PLANK of three", Check.planted(SMALL).test(3, 1, 0), BAD);
    }

    private static void forget() {
        promise(25);
        told.says("No TESTS: how many there were.");
        TreePlanks x = Check.planted(SMALL);
        due("none", x.forget(), 0);
        x.test(0, 7, 0);
        due("one", x.forget(), 1);
        due("none", x.forget(), 0);
        due("count", x.count(3), 0);
        due("all may be", x.mayBe(), 7);
        for (int i = 0; i < 7; i++) {
            x.test(1, 12, 0);
        }
        due("six", x.forget(), 6);
        due("room again", x.test(0, 1, 0), 1);
    }

    private static void mayBe() {
        promise(26);
        told.says("MAY BE, as bits.");
        due("a bare tree", new TreePlanks().mayBe(), 0);
        TreePlanks x = Check.planted(GREAT);
        due("all six", x.mayBe(), 63);
        x.test(5, 40, 0);
        due("not the sixth", x.mayBe(), 31);
        x.test(5, 40, 1);
        due("none", x.mayBe(), 0);
        x.forget();
        x.test(5, 40, 1);
        due("the sixth", x.mayBe(), 32);
    }

    private static void ask() {
        promise(27);
        told.says("ASK: the PLANK (what = 0), the LOAD (1); NONE: no PLANKS.");
        TreePlanks x = Check.planted(SMALL);
        due("PLANK", x.ask(0), 0);
        due("LOAD", x.ask(1), 4);
        x.test(0, 4, 0);
        due("PLANK next", x.ask(0), 1);
        due("LOAD next", x.ask(1), 7);
        due("a bare tree", new TreePlanks().ask(0), NONE);
        due("a bare tree", new TreePlanks().ask(1), NONE);
    }

    private static void askRefuses() {
        told.says("BAD.");
        TreePlanks x = Check.planted(SMALL);
        refused("what", x::ask, -1, 2, NONE);
        TreePlanks bare = new TreePlanks();
        refused("what, no PLANKS", bare::ask, -1, 2, NONE);
    }

    private static void rate() {
        promise(28);
        told.says("RATE.");
        TreePlanks x = Check.planted(GREAT);
        x.stands(4, 2);
        due("CHILD", x.rate(0, 4), 9);
        due("CLIMBER", x.rate(1, 4), 11);
        due("GUEST, below 0", x.rate(2, 0), -8);
        due("as BAD is", x.rate(4, 3), 1);
        due("GUEST at -6", x.rate(2, 1), -6);
        due("CAPTAIN", x.rate(3, 4), 22);
        due("NEIGHBOUR", x.rate(4, 4), 13);
        due("SISTER", x.rate(5, 4), 9);
        due("a rate that looks like BAD", Check.planted("c1 2;").rate(2, 0), -1);
    }

    private static void rateRefuses() {
        told.says("NO: BAD.");
        TreePlanks x = Check.planted(GREAT);
        long ahead = x.trace();
        for (int wrong : Check.wrong(-1, 6, NONE)) {
            due("KIND " + wrong, x.rate(wrong, 0), NO);
        }
        for (int wrong : Check.wrong(-1, 5, NONE)) {
            due("child " + wrong, x.rate(0, wrong), NO);
        }
        due("both", x.rate(6, 5), NO);
        due("no body was asked", x.trace(), ahead);
    }

    private static void keep() {
        promise(29);
        told.says("An IMAGE is kept: GALES.");
        TreePlanks x = Check.planted(SMALL);
        due("IMAGE 0", x.keep(0), 0);
        x.gale(1);
        due("IMAGE 1", x.keep(1), 1);
        x.gale(1);
        due("IMAGE 0 again", x.keep(0), 2);
        due("the newer one", x.back(0), 2);
        due("the other one", x.back(1), 1);
        due("a bare tree", new TreePlanks().keep(0), 0);
    }

    private static void keepRefuses() {
        told.says("BAD.");
        TreePlanks x = Check.planted(SMALL);
        refused("IMAGE", x::keep, -1, 2, NONE);
        TreePlanks y = new TreePlanks();
        refused("IMAGE", y::keep, -1, 2, NONE);
        due("none was kept", y.back(0), STATE);
        due("none was kept", y.back(1), STATE);
    }

    private static void back() {
        promise(30);
        told.says("All of that becomes as an IMAGE has it: GALES.");
        TreePlanks x = Check.planted(SMALL);
        x.stands(1, 2);
        x.gale(5);
        x.keep(1);
        x.stands(1, NONE);
        x.join(2, 0, 0);
        x.gale(9);
        due("GALES", x.back(1), 1);
        due("who STANDS where", x.child(1, 2), 2);
        due("ENDS", x.end(2, 0, 0), 1);
        due("WEAR", x.end(2, 0, 1), 15);
        due("what is OUT", x.end(2, 0, 2), 1);
        due("GALES now", x.now(4), 1);
        due("once more", x.back(1), 1);
    }

    private static void backRefuses() {
        told.says("BAD; STATE: none was kept.");
        TreePlanks x = Check.planted(SMALL);
        refused("IMAGE", x::back, -1, 2, NONE);
        due("IMAGE 0", x.back(0), STATE);
        TreePlanks y = new TreePlanks();
        refused("IMAGE, none kept", y::back, -1, 2, NONE);
        due("IMAGE 0", y.back(0), STATE);
        due("IMAGE 1", y.back(1), STATE);
    }

    private static void count() {
        promise(31);
        told.says("0 BOUGHS, 1 PLANKS, 2 CHILDREN, 3 TESTS, 4 ENDS that are OUT, 5 letters of THE TEXT.");
        TreePlanks x = Check.planted(GREAT);
        int[] first = {8, 6, 5, 0, 0, 0};
        for (int what = 0; what <= 5; what++) {
            due("count " + what, x.count(what), first[what]);
            due("of a bare tree " + what, new TreePlanks().count(what), 0);
        }
        x.test(0, 1, 0);
        due("TESTS", x.count(3), 1);
        x.gale(7);
        due("LOOSE ones are OUT", x.count(4), 2);
        for (int p = 0; p < 6; p++) {
            x.join(p, 0, 0);
            x.join(p, 1, 0);
        }
        due("all DONE ANEW", x.count(4), 0);
        x.gale(7);
        due("all twelve", x.count(4), 12);
        x.type(0);
        due("letters", x.count(5), 1);
    }

    private static void countRefuses() {
        told.says("BAD.");
        TreePlanks x = Check.planted(GREAT);
        refused("what", x::count, -1, 6, NONE);
    }

    private static void trace() {
        promise(32);
        told.says("THE TRACE.");
        TreePlanks x = Check.planted(SMALL);
        due("at first", x.trace(), 0);
        x.rate(0, 0);
        due("one", x.trace(), 1);
        due("to be told changes nothing", x.trace(), 1);
        x.rate(5, 2);
        due("and 100001", x.trace(), 100002);
        x.gale(1);
        x.undo();
        due("not UNDONE", x.trace(), 100002);
        x.rate(6, 0);
        x.rate(0, 3);
        due("refused ones add nothing", x.trace(), 100002);
    }
}
