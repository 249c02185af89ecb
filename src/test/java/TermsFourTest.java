/** Part 4 of "Terms", KINDS and IMAGES: each sentence that names a boundary has a test of its own. */
public final class TermsFourTest {
    private static final int BAD = TreePlanks.BAD, STATE = TreePlanks.STATE;
    private static final int NONE = TreePlanks.NONE, NO = TreePlanks.NO;
    private static final Check CHECK = new Check();
    private static final Sentences TERMS = Sentences.ofTerms(CHECK, 4);

    /** PLANK 0 from a BOUGH of HEIGHT 20 to one of 18, PLANK 1 the other way, PLANK 2 at HEIGHT 0. */
    private static final String HIGH = "b20 60 0;b18 60 3;b0 60 0;b0 60 3;p0 1 40 1 1;p1 0 40 0 3;p2 3 40 2 2;"
            + "c9 0;c1 9;c5 5;c7 2;c3 3;";

    public static void main(String[] args) {
        kindsFrom0To5();
        traceBeginsAt0();
        upIsWhatTheKindAboveDoes();
        childIsItsWeight();
        climberAddsHeight();
        guestIsLessPaid();
        captainIsTwiceUp();
        neighbourAddsItsNumber();
        sisterAddsEndsOut();
        imagesKeepNow();
        imagesKeepNothingElse();
        nothingUndoneBehindBack();
        readAnew();
        TERMS.finish();
        CHECK.finish();
    }

    private static void due(String what, long got, long want) {
        TERMS.due(what, got, want);
    }

    private static void rated(TreePlanks x, int kind, int c, int want, int traced) {
        long ahead = x.trace();
        due("KIND " + kind + " of child " + c, x.rate(kind, c), want);
        due("THE TRACE of KIND " + kind, x.trace() - ahead, traced);
    }

    private static void kindsFrom0To5() {
        TERMS.says("KINDS of CHILDREN are over one another: 0 CHILD; 1 CLIMBER, 2 GUEST, 5 SISTER (each under CHILD);"
                + " 3 CAPTAIN (under CLIMBER); 4 NEIGHBOUR (under GUEST)");
        TreePlanks x = Check.planted(HIGH);
        rated(x, -1, 0, NO, 0);
        rated(x, 0, 0, 9, 1);
        rated(x, 1, 0, 9, 10 + 1);
        rated(x, 2, 0, 9, 100 + 1);
        rated(x, 3, 0, 18, 1000 + 10 + 1);
        rated(x, 4, 0, 9, 10000 + 100 + 1);
        rated(x, 5, 0, 9, 100000 + 1);
        rated(x, 6, 0, NO, 0);
    }

    private static void traceBeginsAt0() {
        TERMS.says("RATE of one as if of a KIND (numbers in brackets are added to THE TRACE, 0 at first,"
                + " as often as rate() asks that body: each once");
        TreePlanks x = new TreePlanks();
        due("a new object", x.trace(), 0);
        due("nobody to rate", x.rate(0, 0), NO);
        due("nothing was asked", x.trace(), 0);
        Check.typed(x, HIGH).tree();
        due("told anew", x.trace(), 0);
        // twice up is one question to the CLIMBER, whose answer counts twice
        x.rate(3, 0);
        due("each once", x.trace(), 1011);
        for (int i = 0; i < 300; i++) {
            x.rate(5, 0);
        }
        due("300 more", x.trace(), 1011 + 300L * 100001);
    }

    private static void upIsWhatTheKindAboveDoes() {
        TERMS.says("\"up\" is what the KIND above does)");
        TreePlanks x = Check.planted(HIGH);
        x.stands(1, 0);
        due("CAPTAIN is twice CLIMBER", x.rate(3, 1), 2 * x.rate(1, 1));
        due("NEIGHBOUR is GUEST and 1", x.rate(4, 1), x.rate(2, 1) + 1);
        due("CLIMBER is CHILD and 20", x.rate(1, 1), x.rate(0, 1) + 20);
        due("GUEST is CHILD less 9", x.rate(2, 1), x.rate(0, 1) - 9);
        due("SISTER is CHILD", x.rate(5, 1), x.rate(0, 1));
    }

    private static void childIsItsWeight() {
        TERMS.says("CHILD its WEIGHT (1)");
        TreePlanks x = Check.planted(HIGH);
        x.stands(0, 0);
        rated(x, 0, 0, 9, 1);
        rated(x, 0, 1, 1, 1);
        rated(x, 0, 4, 3, 1);
        rated(x, 0, 5, NO, 0);
    }

    private static void climberAddsHeight() {
        TERMS.says("CLIMBER up, and the HEIGHT of the BOUGH of END 0 of the PLANK it is on (10)");
        TreePlanks x = Check.planted(HIGH);
        rated(x, 1, 0, 9, 11);
        x.stands(0, 0);
        rated(x, 1, 0, 29, 11);
        x.stands(0, 1);
        rated(x, 1, 0, 27, 11);
        x.stands(0, 2);
        rated(x, 1, 0, 9, 11);
        x.stands(0, 0);
        x.gale(9);
        due("END 0 is OUT", x.end(0, 0, 2), 1);
        rated(x, 1, 0, 29, 11);
        x.stands(0, NONE);
        rated(x, 1, 0, 9, 11);
    }

    private static void guestIsLessPaid() {
        TERMS.says("GUEST up less PAID (100)");
        TreePlanks x = Check.planted(HIGH);
        rated(x, 2, 0, 9, 101);
        rated(x, 2, 1, -8, 101);
        rated(x, 2, 2, 0, 101);
        rated(x, 2, 3, 5, 101);
    }

    private static void captainIsTwiceUp() {
        TERMS.says("CAPTAIN twice up (1000)");
        TreePlanks x = Check.planted(HIGH);
        rated(x, 3, 1, 2, 1011);
        x.stands(0, 0);
        rated(x, 3, 0, 2 * (9 + 20), 1011);
        x.stands(1, 1);
        rated(x, 3, 1, 2 * (1 + 18), 1011);
    }

    private static void neighbourAddsItsNumber() {
        TERMS.says("NEIGHBOUR up, and its number (10000)");
        TreePlanks x = Check.planted(HIGH);
        rated(x, 4, 0, 9, 10101);
        rated(x, 4, 1, 1 - 9 + 1, 10101);
        rated(x, 4, 4, 3 - 3 + 4, 10101);
    }

    private static void sisterAddsEndsOut() {
        TERMS.says("SISTER up, and how many ENDS are OUT (100000)");
        TreePlanks x = Check.planted(HIGH);
        rated(x, 5, 0, 9, 100001);
        x.gale(7);
        // both NAILED and the LOOSE one; ROPED has 10, BOLTED 7
        rated(x, 5, 0, 9 + 3, 100001);
        x.gale(9);
        rated(x, 5, 1, 1 + 5, 100001);
        x.undo();
        rated(x, 5, 1, 1 + 3, 100001);
    }

    private static void imagesKeepNow() {
        TERMS.says("IMAGES 0, 1 keep NOW (who STANDS where, ENDS, WEAR, what is OUT, GALES)");
        TreePlanks x = Check.planted("b0 60 0;b0 60 3;p0 1 40 1 2;p1 0 40 0 3;c1 1;c2 2;");
        String first = withoutUndo(x);
        x.keep(0);
        x.stands(1, 1);
        x.gale(7);
        x.gale(2);
        x.join(1, 0, 3);
        String later = withoutUndo(x);
        due("GALES kept", x.keep(1), 2);
        x.stands(1, 0);
        x.stands(0, 0);
        x.join(0, 0, 2);
        x.gale(9);
        due("back to 0", x.back(0), 0);
        TERMS.same("as at first", withoutUndo(x), first);
        due("back to 1", x.back(1), 2);
        TERMS.same("as later", withoutUndo(x), later);
        due("back to 0 once more", x.back(0), 0);
        TERMS.same("as at first", withoutUndo(x), first);
        due("IMAGE 2", x.keep(2), BAD);
        due("IMAGE -1", x.keep(-1), BAD);
        // an IMAGE kept again is the newer one
        x.gale(1);
        due("kept over", x.keep(1), 1);
        x.gale(1);
        due("back to it", x.back(1), 1);
    }

    /** What is seen, but for how many may be UNDONE. */
    private static String withoutUndo(TreePlanks x) {
        return Check.seen(x).replaceFirst("^(\\S+ ){12}", x.count(4) + " out, " + x.now(4) + " gales, ");
    }

    private static void imagesKeepNothingElse() {
        TERMS.says("nothing else");
        TreePlanks x = Check.planted("b0 60 0;b0 60 3;p0 1 40 1 2;c1 1;");
        x.test(0, 1, 0);
        x.type('b');
        x.rate(0, 0);
        x.keep(0);
        x.test(0, 40, 1);
        x.type('1');
        x.rate(1, 0);
        x.back(0);
        due("TESTS stay", x.count(3), 2);
        due("letters stay", x.count(5), 2);
        due("THE TRACE goes on", x.trace(), 12);
        x.keep(1);
        x.forget();
        x.clear();
        x.back(1);
        due("TESTS are forgotten", x.count(3), 0);
        due("letters are gone", x.count(5), 0);
        due("the IMAGE is kept still", x.back(1), 0);
    }

    private static void nothingUndoneBehindBack() {
        TERMS.says("(nothing can be UNDONE behind back())");
        TreePlanks x = Check.planted("b0 60 0;b0 60 3;p0 1 40 1 2;c1 1;");
        x.gale(1);
        x.keep(0);
        due("keep() leaves it", x.now(5), 1);
        x.gale(1);
        x.back(0);
        due("none may be UNDONE", x.now(5), 0);
        due("undo", x.undo(), STATE);
        due("GALES", x.now(4), 1);
        x.spring();
        due("but what comes then", x.undo(), 0);
        for (int i = 0; i < 12; i++) {
            x.gale(1);
        }
        due("back() that is refused leaves it", x.back(1), STATE);
        due("known", x.now(5), 10);
        x.back(0);
        due("none of ten", x.undo(), STATE);
    }

    private static void readAnew() {
        TERMS.says("(Read anew: as told, no TESTS, IMAGES are gone.)");
        String text = "b0 60 0;b0 60 3;p0 1 40 1 0;c1 1;";
        TreePlanks x = Check.planted(text);
        String first = Check.seen(x);
        x.stands(0, 0);
        x.gale(9);
        x.join(0, 0, 3);
        x.test(0, 21, 0);
        x.keep(0);
        x.keep(1);
        Check.typed(x, text).tree();
        TERMS.same("as told", Check.seen(x), first);
        due("no TESTS", x.count(3), 0);
        due("IMAGE 0 is gone", x.back(0), STATE);
        due("IMAGE 1 is gone", x.back(1), STATE);
        due("nothing may be UNDONE", x.undo(), STATE);
        fewerReadAnew();
        x.keep(0);
        Check.typed(x, "b0 0 0;");
        x.tree();
        due("a FAULT reads nothing anew", x.back(0), 0);
    }

    /** What was found out about a greater tree counts no more. */
    private static void fewerReadAnew() {
        TreePlanks x = Check.planted(HIGH);
        x.gale(9);
        x.stands(4, 2);
        askAll(x);
        Check.typed(x, "b0 9 0;b0 9 3;p0 1 9 1 1;c9 1;").tree();
        due("MOST", x.most(NONE), 1);
        due("MOST, the child", x.most(0), 0);
        due("RICHEST", x.richest(NONE), 1);
        due("RICHEST, the child", x.richest(0), 0);
        due("STANDS for", x.holdsFor(9), NONE);
        due("FIRST OUT", x.firstOut(4, 1), 0);
        due("BOLTS", x.bolts(4, 1, 0), 3);
        due("BOLTS that help", x.bolts(4, 1, 1), 3);
        due("ORDERS", x.orders(-1), 1);
        due("ORDERS, the first", x.orders(0), 0);
        due("BARRED", x.barred(), 0);
        due("HOIST", x.hoist(1, 9), NONE);
        due("MAY BE", x.mayBe(), 1);
        due("ASK", x.ask(0), 0);
        due("ENDS that are OUT", x.count(4), 0);
        due("a SISTER", x.rate(5, 0), 9);
    }

    private static void askAll(TreePlanks x) {
        x.most(NONE);
        x.richest(NONE);
        x.holdsFor(9);
        x.firstOut(9, 0);
        x.bolts(9, 30, 1);
        x.odds(2, 0, 6, 0);
        x.orders(-1);
        x.orders(0);
        x.test(2, 20, 0);
        x.ask(0);
    }
}
