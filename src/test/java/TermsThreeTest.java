/** Part 3 of "Terms", what is told ahead: each sentence that names a boundary has a test of its own. */
public final class TermsThreeTest {
    private static final int BAD = TreePlanks.BAD, STATE = TreePlanks.STATE, FULL = TreePlanks.FULL;
    private static final int NONE = TreePlanks.NONE, ON_NONE = -5;
    private static final int LOOSE = 0, NAILED = 1, ROPED = 2, BOLTED = 3;
    private static final Check CHECK = new Check();
    private static final Sentences TERMS = Sentences.ofTerms(CHECK, 3);

    /** Two BOUGHS alike that break under nothing a PLANK of 40 has. */
    private static final String TWO = "b0 60 0;b0 60 0;";
    /** Likewise, but their SWAY differs by 3, or by 1. */
    private static final String UNLIKE = "b0 60 0;b0 60 3;", NEARLY = "b0 60 0;b0 60 1;";

    public static void main(String[] args) {
        nothingIsChanged();
        mostWhereverTheyStand();
        mostSoThatItHolds();
        mostFirstRow();
        richestIsGreatest();
        richestOfFewer();
        richestFirstRow();
        firstOutBehindHowMany();
        firstOutNotSoNow();
        firstOutLeastEnd();
        standsForHowMany();
        standsForAsTheyStand();
        boltsAsBits();
        boltsNotOutNow();
        boltsFrom1To30();
        boltsThatHelp();
        oddsFrom0To6();
        oddsOfForce1To6();
        oddsAsAFraction();
        ordersOfAll();
        ordersFromBough0();
        ordersFirstByNumbers();
        barredAsBits();
        hoistFrom1To60();
        hoistWeightsAtLeast();
        hoistBoughMustBear();
        hoistFewest();
        rottenHoldsHalf();
        testsSixAtMost();
        testsOfLoad1To60();
        breaksIfItHoldsLess();
        mayBeAgrees();
        askSplitsBest();
        askLeast();
        TERMS.finish();
        CHECK.finish();
    }

    private static void due(String what, long got, long want) {
        TERMS.due(what, got, want);
    }

    private static void most(TreePlanks x, int many, int... row) {
        due("MOST", x.most(NONE), many);
        for (int c = 0; c < row.length; c++) {
            due("MOST, child " + c, x.most(c), row[c]);
        }
    }

    private static void richest(TreePlanks x, int much, int... row) {
        due("RICHEST", x.richest(NONE), much);
        for (int c = 0; c < row.length; c++) {
            due("RICHEST, child " + c, x.richest(c), row[c]);
        }
    }

    private static TreePlanks across(int kind, int differs) {
        return Check.planted("b0 60 0;b0 60 " + differs + ";p0 1 40 " + kind + " " + kind + ";c1 1;");
    }

    private static void nothingIsChanged() {
        TERMS.says("(From NOW on; nothing is changed.)");
        TreePlanks x = Check.planted(UNLIKE + "p0 1 9 1 2;p1 0 9 3 0;c4 1;c7 9;");
        x.stands(0, 0);
        x.gale(2);
        x.test(0, 5, 1);
        String seen = Check.seen(x);
        for (int g = 1; g <= 9; g++) {
            x.firstOut(g, 0);
            x.firstOut(g, 1);
            x.holdsFor(g);
            x.bolts(g, 30, 0);
            x.bolts(g, 30, 1);
        }
        x.most(NONE);
        x.richest(NONE);
        x.odds(0, 0, 6, 0);
        x.orders(-1);
        x.orders(0);
        x.barred();
        x.hoist(0, 1);
        x.mayBe();
        x.ask(0);
        TERMS.same("all as it was", Check.seen(x), seen);
        // NAILED has WEAR 6 NOW: of force 2 one more is 12; at first it took two
        due("from NOW on", x.firstOut(2, 0), 1);
        due("UNDONE", x.undo(), 1);
        due("from then on", x.firstOut(2, 0), 2);
    }

    private static void mostWhereverTheyStand() {
        TERMS.says("MOST: the most CHILDREN (wherever they STAND now)");
        TreePlanks x = Check.planted(TWO + "p0 1 10 1 1;p0 1 40 1 1;c5 0;c5 0;c5 0;");
        most(x, 3, 0, 0, 1);
        for (int c = 0; c < 3; c++) {
            x.stands(c, 0);
        }
        due("it does not HOLD now", x.now(0), 0);
        most(x, 3, 0, 0, 1);
        most(new TreePlanks(), 0);
        most(Check.planted(TWO + "p0 1 40 1 1;"), 0);
        most(Check.planted(TWO + "c1 1;c1 1;"), 0, ON_NONE, ON_NONE);
        most(Check.planted(TWO + "p0 1 40 1 1;" + "c8 0;".repeat(5)), 5, 0, 0, 0, 0, 0);
    }

    private static void mostSoThatItHolds() {
        TERMS.says("that can STAND so that it HOLDS all");
        most(Check.planted(TWO + "p0 1 10 1 1;c5 0;c5 0;"), 2, 0, 0);
        most(Check.planted(TWO + "p0 1 9 1 1;c5 0;c5 0;"), 1, 0, ON_NONE);
        // a LOAD of 6 brings 3 to BOUGH 0, one of 7 brings 4
        most(Check.planted("b0 3 0;b0 60 0;p0 1 40 1 1;c5 0;c1 0;c1 0;"), 2, 0, 0, ON_NONE);
        // a LOAD of 7 brings 3 to the BOUGH of END 1, one of 8 brings 4
        most(Check.planted("b0 60 0;b0 3 0;p0 1 40 1 1;c5 0;c1 0;c1 0;"), 3, 0, 0, 0);
        most(Check.planted("b0 60 0;b0 3 0;p0 1 40 1 1;c5 0;c2 0;c1 0;"), 2, 0, 0, ON_NONE);
        // likewise at the ENDS of a PLANK that is not the first
        most(Check.planted(TWO + "b0 3 0;p0 1 1 1 1;p0 2 40 1 1;c7 0;c1 0;c1 0;"), 2, 1, 0, ON_NONE);
        most(Check.planted(TWO + "b0 3 0;p0 1 1 1 1;p2 0 40 1 1;c6 0;c1 0;c1 0;"), 2, 1, 0, ON_NONE);
        // both PLANKS bring 2 of 3 to BOUGH 0
        most(Check.planted("b0 4 0;b0 60 0;b0 60 0;p0 1 3 1 1;p0 2 3 1 1;c3 0;c3 0;"), 2, 0, 1);
        most(Check.planted("b0 3 0;b0 60 0;b0 60 0;p0 1 3 1 1;p0 2 3 1 1;c3 0;c3 0;"), 1, 0, ON_NONE);
        TreePlanks x = Check.planted(UNLIKE + "p0 1 40 3 1;p0 1 40 1 3;p0 1 9 3 3;c9 0;c9 0;");
        x.gale(4);
        most(x, 1, 2, ON_NONE);
        x.join(1, 0, 3);
        most(x, 2, 1, 1);
    }

    private static void mostFirstRow() {
        TERMS.says("the row (CHILD by CHILD the PLANK, the least ahead, on none behind all) that is first");
        most(Check.planted(TWO + "p0 1 40 1 1;p0 1 40 1 1;c1 0;c1 0;"), 2, 0, 0);
        most(Check.planted(TWO + "p0 1 1 1 1;p0 1 40 1 1;c2 0;c1 0;"), 2, 1, 0);
        most(Check.planted(TWO + "p0 1 4 1 1;c4 0;c4 0;"), 1, 0, ON_NONE);
        most(Check.planted(TWO + "p0 1 5 1 1;p0 1 5 1 1;c3 0;c5 0;c5 0;"), 2, 0, 1, ON_NONE);
        // child 0 on PLANK 0 would be ahead, but then child 1 finds no room
        most(Check.planted(TWO + "p0 1 5 1 1;p0 1 2 1 1;c2 0;c5 0;"), 2, 1, 0);
        // child 0 on none comes behind all, but only so two of them can STAND
        most(Check.planted(TWO + "p0 1 6 1 1;c6 0;c3 0;c3 0;"), 2, ON_NONE, 0, 0);
        most(Check.planted(TWO + "p0 1 1 1 1;".repeat(5) + "p0 1 40 1 1;c9 0;"), 1, 5);
    }

    private static void richestIsGreatest() {
        TERMS.says("RICHEST: likewise that whose PAID together is greatest");
        richest(Check.planted(TWO + "p0 1 9 1 1;c9 5;c4 3;c5 3;"), 6, ON_NONE, 0, 0);
        richest(Check.planted(TWO + "p0 1 9 1 1;c9 7;c4 3;c5 3;"), 7, 0, ON_NONE, ON_NONE);
        richest(Check.planted(TWO + "p0 1 40 1 1;" + "c8 9;".repeat(5)), 45, 0, 0, 0, 0, 0);
        richest(new TreePlanks(), 0);
        richest(Check.planted(TWO + "c1 9;"), 0, ON_NONE);
        TreePlanks x = Check.planted(UNLIKE + "p0 1 40 1 3;c1 9;");
        richest(x, 9, 0);
        x.gale(4);
        richest(x, 0, ON_NONE);
    }

    private static void richestOfFewer() {
        TERMS.says("of several that of fewer CHILDREN");
        richest(Check.planted(TWO + "p0 1 4 1 1;c2 2;c2 3;c4 5;"), 5, ON_NONE, ON_NONE, 0);
        richest(Check.planted(TWO + "p0 1 40 1 1;c1 0;c1 1;c1 0;"), 1, ON_NONE, 0, ON_NONE);
        richest(Check.planted(TWO + "p0 1 40 1 1;c1 0;c1 0;"), 0, ON_NONE, ON_NONE);
        // four of 1 pay as much as one of 4
        richest(Check.planted(TWO + "p0 1 4 1 1;c1 1;c1 1;c1 1;c1 1;c4 4;"), 4, ON_NONE, ON_NONE, ON_NONE, ON_NONE, 0);
        // more PAID goes ahead of fewer CHILDREN, though it is by 1 and they are five
        richest(Check.planted(TWO + "p0 1 5 1 1;c1 1;c1 1;c1 1;c2 1;c5 3;"), 4, 0, 0, 0, 0, ON_NONE);
    }

    private static void richestFirstRow() {
        TERMS.says("then the first row: how much, the PLANK of a child; NONE: on none");
        richest(Check.planted(TWO + "p0 1 4 1 1;c4 5;c4 5;"), 5, 0, ON_NONE);
        richest(Check.planted(TWO + "p0 1 40 1 1;p0 1 40 1 1;c4 5;c4 5;"), 10, 0, 0);
        richest(Check.planted(TWO + "p0 1 5 1 1;p0 1 2 1 1;c2 1;c5 1;"), 2, 1, 0);
        // 0 and 2, or 1 and 2: the row that has child 0 on a PLANK is first
        richest(Check.planted(TWO + "p0 1 5 1 1;c3 4;c3 4;c2 1;"), 5, 0, ON_NONE, 0);
    }

    /** No END stays for more than 36 GALES if it wears at all, so that 60 of them tell all there is. */
    private static void firstOutBehindHowMany() {
        TERMS.says("FIRST OUT by GALES of force g: behind how many (1 .. 60)");
        due("at once", across(NAILED, 3).firstOut(4, 0), 1);
        due("not at once", across(NAILED, 3).firstOut(3, 0), 2);
        due("NAILED, 1 each", across(NAILED, 1).firstOut(1, 0), 12);
        due("ROPED, 1 each", across(ROPED, 1).firstOut(2, 0), 20);
        due("BOLTED, 1 each", across(BOLTED, 1).firstOut(3, 0), 36);
        due("ROPED, 0 each", across(ROPED, 1).firstOut(1, 0), NONE);
        due("BOLTED, 0 each", across(BOLTED, 2).firstOut(1, 0), NONE);
        due("LOOSE by 6", across(LOOSE, 3).firstOut(6, 0), NONE);
        due("LOOSE by 7", across(LOOSE, 3).firstOut(7, 0), 1);
        due("BOUGHS alike", across(NAILED, 0).firstOut(9, 0), NONE);
        due("no PLANKS", new TreePlanks().firstOut(9, 0), NONE);
        due("0", across(NAILED, 3).firstOut(0, 0), BAD);
        due("10", across(NAILED, 3).firstOut(10, 0), BAD);
    }

    private static void firstOutNotSoNow() {
        TERMS.says("an END is OUT that is not so NOW");
        TreePlanks x = Check.planted(NEARLY + "p0 1 40 1 2;");
        x.gale(9);
        due("WEAR 9 NOW", x.firstOut(3, 0), 1);
        x.gale(9);
        due("NAILED is OUT, ROPED has 8", x.firstOut(2, 0), 12);
        due("which", x.firstOut(2, 1), 1);
        x.gale(9);
        x.gale(9);
        x.gale(9);
        due("both are OUT", x.count(4), 2);
        due("none is left", x.firstOut(9, 0), NONE);
        due("no END", x.firstOut(9, 1), NONE);
    }

    private static void firstOutLeastEnd() {
        TERMS.says("which, of several the least (2 times the PLANK, and the END); NONE");
        due("1 and 2 at once", Check.planted(UNLIKE + "p0 1 9 3 1;p0 1 9 1 3;").firstOut(4, 1), 1);
        due("2 and 3 at once", Check.planted(UNLIKE + "p0 1 9 3 3;p0 1 9 1 1;").firstOut(4, 1), 2);
        due("a greater one is earlier", Check.planted(UNLIKE + "p0 1 9 2 2;p0 1 9 3 1;").firstOut(3, 1), 3);
        String last = UNLIKE + "p0 1 9 3 3;".repeat(5) + "p0 1 9 3 1;";
        due("the last one", Check.planted(last).firstOut(1, 1), 11);
        due("behind", Check.planted(last).firstOut(1, 0), 4);
        due("NONE", across(NAILED, 0).firstOut(9, 1), NONE);
    }

    private static void standsForHowMany() {
        TERMS.says("STANDS for: behind how many GALES of force g (0 .. 60)");
        TreePlanks laden = Check.planted(UNLIKE + "p0 1 1 1 1;c1 0;c1 0;");
        laden.stands(0, 0);
        due("1 of 1", laden.holdsFor(1), 4);
        laden.stands(1, 0);
        due("too much LOAD NOW", laden.holdsFor(1), 0);
        TreePlanks bent = Check.planted("b0 1 0;b0 60 3;p0 1 9 1 1;c3 0;");
        bent.stands(0, 0);
        due("a BOUGH BEARS too much NOW", bent.holdsFor(1), 0);
        TreePlanks out = across(NAILED, 3);
        out.stands(0, 0);
        due("one GALE of 4", out.holdsFor(4), 1);
        out.gale(4);
        due("OUT NOW", out.holdsFor(1), 0);
        TreePlanks bolted = across(BOLTED, 1);
        bolted.stands(0, 0);
        due("the longest", bolted.holdsFor(3), 36);
        due("for ever", bolted.holdsFor(2), NONE);
        due("0", bolted.holdsFor(0), BAD);
        due("10", bolted.holdsFor(10), BAD);
    }

    private static void standsForAsTheyStand() {
        TERMS.says("CHILDREN as they STAND, it does not HOLD all; NONE");
        TreePlanks x = Check.planted(UNLIKE + "p0 1 40 1 1;p0 1 40 3 3;p0 1 40 0 0;c1 0;");
        due("nobody STANDS", x.holdsFor(9), NONE);
        x.stands(0, 0);
        due("NAILED", x.holdsFor(2), 2);
        x.stands(0, 1);
        due("BOLTED, though the others are OUT ahead of it", x.holdsFor(9), 4);
        x.stands(0, 2);
        due("LOOSE by 7", x.holdsFor(7), 1);
        due("LOOSE by 6", x.holdsFor(6), NONE);
        due("a bare tree", new TreePlanks().holdsFor(9), NONE);
    }

    private static void boltsAsBits() {
        TERMS.says("BOLTS: the ENDS (bits, 2 times the PLANK and the END)");
        TreePlanks x = Check.planted(UNLIKE + "p0 1 9 1 1;".repeat(6));
        due("all twelve", x.bolts(4, 1, 0), 4095);
        due("it helps all", x.bolts(4, 1, 1), 4095);
        due("END 1 of PLANK 0, END 0 of PLANK 1", Check.planted(UNLIKE + "p0 1 9 3 1;p0 1 9 1 3;").bolts(4, 1, 0), 6);
        due("END 1 of PLANK 5", Check.planted(UNLIKE + "p0 1 9 3 3;".repeat(5) + "p0 1 9 3 1;").bolts(4, 1, 0), 2048);
        due("a bare tree", new TreePlanks().bolts(9, 30, 0), 0);
        due("a bare tree", new TreePlanks().bolts(9, 30, 1), 0);
    }

    private static void boltsNotOutNow() {
        TERMS.says("that are not OUT NOW and would be so");
        TreePlanks x = Check.planted(UNLIKE + "p0 1 9 1 2;");
        x.gale(4);
        due("NAILED is OUT, ROPED has 6", x.bolts(9, 1, 0), 0);
        due("ROPED gives at 20", x.bolts(9, 2, 0), 2);
        x.join(0, 0, NAILED);
        due("DONE ANEW it counts", x.bolts(9, 2, 0), 3);
    }

    private static void boltsFrom1To30() {
        TERMS.says("behind n (1 .. 30) GALES of force g");
        TreePlanks x = across(NAILED, 1);
        due("11", x.bolts(1, 11, 0), 0);
        due("12", x.bolts(1, 12, 0), 3);
        due("n = 1", across(NAILED, 3).bolts(4, 1, 0), 3);
        due("n = 0", x.bolts(1, 0, 0), BAD);
        due("n = 31", x.bolts(1, 31, 0), BAD);
        due("g = 0", x.bolts(0, 1, 0), BAD);
        due("g = 10", x.bolts(10, 1, 0), BAD);
        TreePlanks y = across(BOLTED, 1);
        y.gale(9);
        y.gale(6);
        due("WEAR 5 and 30", y.bolts(3, 30, 0), 0);
        y.gale(3);
        due("WEAR 6 and 29", y.bolts(3, 29, 0), 0);
        due("WEAR 6 and 30", y.bolts(3, 30, 0), 3);
    }

    private static void boltsThatHelp() {
        TERMS.says("those of them that, BOLTED anew first, would not be so");
        TreePlanks x = across(NAILED, 3);
        due("27", x.bolts(9, 3, 1), 3);
        due("36", x.bolts(9, 4, 1), 0);
        due("35", x.bolts(5, 7, 1), 3);
        due("they would be OUT", x.bolts(9, 4, 0), 3);
        TreePlanks loose = across(LOOSE, 3);
        due("none would be OUT by 6", loose.bolts(6, 1, 1), 0);
        due("LOOSE by 9, 27", loose.bolts(9, 3, 1), 3);
        due("LOOSE by 9, 36", loose.bolts(9, 4, 1), 0);
        due("LOOSE between BOUGHS alike", across(LOOSE, 0).bolts(9, 30, 1), 3);
        TreePlanks worn = across(BOLTED, 1);
        worn.gale(9);
        worn.gale(9);
        due("WEAR 6 would be OUT, BOLTED anew 30", worn.bolts(3, 30, 1), 3);
        TreePlanks mixed = Check.planted("b0 60 0;b0 60 3;b0 60 1;p0 1 9 1 1;p0 2 9 1 1;");
        due("helps where SWAY differs by 1", mixed.bolts(9, 4, 1), 12);
        due("all would be OUT", mixed.bolts(9, 4, 0), 15);
        due("each of twelve, 35", Check.planted(UNLIKE + "p0 1 9 1 1;".repeat(6)).bolts(5, 7, 1), 4095);
    }

    private static void oddsFrom0To6() {
        TERMS.says("ODDS of an END, n (0 .. 6) GALES");
        TreePlanks x = across(NAILED, 3);
        due("n = 0, upper", x.odds(0, 0, 0, 0), 1);
        due("n = 0, lower", x.odds(0, 0, 0, 1), 1);
        due("n = -1", x.odds(0, 0, -1, 0), BAD);
        due("n = 7", x.odds(0, 0, 7, 0), BAD);
        TreePlanks y = across(BOLTED, 3);
        due("n = 5: 30 at most", y.odds(0, 1, 5, 1), 1);
        due("n = 6: all but six of 6", y.odds(0, 1, 6, 0), 46655);
        due("n = 6, lower", y.odds(0, 1, 6, 1), 46656);
    }

    private static void oddsOfForce1To6() {
        TERMS.says("each of force 1 to 6, alike likely");
        due("LOOSE would slip by 7", across(LOOSE, 3).odds(0, 0, 6, 0), 1);
        due("LOOSE, lower", across(LOOSE, 3).odds(0, 0, 6, 1), 1);
        due("NAILED gives by 6 alone: upper", across(NAILED, 2).odds(0, 0, 1, 0), 5);
        due("lower", across(NAILED, 2).odds(0, 0, 1, 1), 6);
        TreePlanks x = across(NAILED, 1);
        x.gale(9);
        x.gale(1);
        due("WEAR 10 bears 1 alone: upper", x.odds(0, 0, 1, 0), 1);
        due("lower", x.odds(0, 0, 1, 1), 6);
        x.gale(1);
        due("WEAR 11 bears none: upper", x.odds(0, 0, 1, 0), 0);
        for (int kind = LOOSE; kind <= BOLTED; kind++) {
            for (int differs = 0; differs <= 3; differs++) {
                for (int n = 0; n <= 6; n++) {
                    oddsByAllRows(kind, differs, n);
                }
            }
        }
    }

    /** Every row of n forces is blown one by one. */
    private static void oddsByAllRows(int kind, int differs, int n) {
        int rows = (int) Math.pow(6, n);
        int stays = 0;
        for (int row = 0; row < rows; row++) {
            int wear = 0;
            for (int i = 0, rest = row; i < n; i++, rest /= 6) {
                wear += kind == LOOSE ? 0 : differs * (1 + rest % 6) / kind;
            }
            stays += wear < new int[] {1, 12, 20, 36}[kind] ? 1 : 0;
        }
        TreePlanks x = across(kind, differs);
        long upper = x.odds(0, 0, n, 0);
        long lower = x.odds(0, 0, n, 1);
        due("kind " + kind + ", differs " + differs + ", n " + n, upper * rows, lower * stays);
    }

    private static void oddsAsAFraction() {
        TERMS.says("that it is not OUT behind them: a fraction");
        TreePlanks x = across(NAILED, 3);
        due("3 of 6, upper", x.odds(0, 0, 1, 0), 1);
        due("3 of 6, lower", x.odds(0, 0, 1, 1), 2);
        due("3 of 36, upper", x.odds(0, 0, 2, 0), 1);
        due("3 of 36, lower", x.odds(0, 0, 2, 1), 12);
        due("0 of 1296, upper", x.odds(0, 0, 4, 0), 0);
        due("0 of 1296, lower", x.odds(0, 0, 4, 1), 1);
        x.gale(4);
        due("OUT NOW", x.odds(0, 0, 1, 0), STATE);
        due("OUT NOW, no GALE", x.odds(0, 0, 0, 1), STATE);
    }

    private static void ordersOfAll() {
        TERMS.says("ORDERS: in how many orders all PLANKS can be laid");
        due("a bare tree: the empty one", new TreePlanks().orders(-1), 1);
        due("no PLANKS", Check.planted(TWO).orders(-1), 1);
        due("one", Check.planted(TWO + "p0 1 9 1 1;").orders(-1), 1);
        due("six at BOUGH 0", Check.planted(TWO + "p0 1 9 1 1;".repeat(6)).orders(-1), 720);
        due("one that can't be laid", Check.planted(TWO + "b0 9 0;b0 9 0;p0 1 9 1 1;p2 3 9 1 1;").orders(-1), 0);
    }

    private static void ordersFromBough0() {
        TERMS.says("if each must have an end at BOUGH 0 or at a BOUGH of one laid ahead");
        String boughs = "b0 9 0;".repeat(7);
        due("END 1 at BOUGH 0", Check.planted(boughs + "p1 0 9 1 1;").orders(-1), 1);
        due("not at BOUGH 0", Check.planted(boughs + "p1 2 9 1 1;").orders(-1), 0);
        due("END 0 at BOUGH 1", Check.planted(boughs + "p0 1 9 1 1;p1 2 9 1 1;").orders(-1), 1);
        due("END 1 at BOUGH 1", Check.planted(boughs + "p1 0 9 1 1;p2 1 9 1 1;").orders(-1), 1);
        due("a row of six", Check.planted(boughs
                + "p5 6 9 1 1;p4 5 9 1 1;p3 4 9 1 1;p2 3 9 1 1;p1 2 9 1 1;p0 1 9 1 1;").orders(-1), 1);
        due("two rows of three: 20", Check.planted(boughs
                + "p0 1 9 1 1;p1 2 9 1 1;p2 3 9 1 1;p0 4 9 1 1;p4 5 9 1 1;p5 6 9 1 1;").orders(-1), 20);
        due("PLANKS at one another, none at BOUGH 0", Check.planted(boughs + "p1 2 9 1 1;p2 3 9 1 1;").orders(-1), 0);
    }

    private static void ordersFirstByNumbers() {
        TERMS.says("the first one (by numbers): its i-th");
        TreePlanks x = Check.planted("b0 9 0;".repeat(4) + "p1 2 9 1 1;p0 1 9 1 1;p0 3 9 1 1;");
        due("three orders", x.orders(-1), 3);
        due("0-th", x.orders(0), 1);
        due("1st", x.orders(1), 0);
        due("2nd", x.orders(2), 2);
        due("no 3rd", x.orders(3), -5);
        TreePlanks y = Check.planted("b0 9 0;".repeat(7)
                + "p5 6 9 1 1;p4 5 9 1 1;p3 4 9 1 1;p2 3 9 1 1;p1 2 9 1 1;p0 1 9 1 1;");
        for (int i = 0; i < 6; i++) {
            due(i + "-th of a row", y.orders(i), 5 - i);
        }
        due("no 6th", y.orders(6), -5);
        due("none of a bare tree", new TreePlanks().orders(0), -5);
    }

    private static void barredAsBits() {
        TERMS.says("BARRED: PLANKS (bits) that can never be laid so");
        String boughs = "b0 9 0;".repeat(4);
        due("a bare tree", new TreePlanks().barred(), 0);
        due("none", Check.planted(boughs + "p2 3 9 1 1;p1 2 9 1 1;p1 0 9 1 1;").barred(), 0);
        due("two of three", Check.planted(boughs + "p1 2 9 1 1;p0 3 9 1 1;p2 1 9 1 1;").barred(), 5);
        due("the sixth", Check.planted(boughs + "p0 1 9 1 1;".repeat(5) + "p2 3 9 1 1;").barred(), 32);
        due("all six", Check.planted(boughs + "p1 2 9 1 1;".repeat(6)).barred(), 63);
    }

    private static void hoistFrom1To60() {
        TERMS.says("HOIST of a WEIGHT w (1 .. 60) over a BOUGH: sets of CHILDREN who pull");
        TreePlanks x = Check.planted("b0 60 0;" + "c9 0;".repeat(5));
        due("0", x.hoist(0, 0), BAD);
        due("1", x.hoist(0, 1), 1);
        due("30: 36 of them would be too much", x.hoist(0, 30), NONE);
        due("60: nobody can", x.hoist(0, 60), NONE);
        due("61", x.hoist(0, 61), BAD);
        TreePlanks y = Check.planted("b0 60 0;c9 0;c9 0;c9 0;c2 0;c1 0;");
        due("30 and 30 on 60", y.hoist(0, 30), 1 + 2 + 4 + 8 + 16);
        due("31", y.hoist(0, 31), NONE);
        due("no CHILDREN", Check.planted("b0 60 0;").hoist(0, 1), NONE);
        due("no BOUGHS", new TreePlanks().hoist(0, 1), BAD);
    }

    private static void hoistWeightsAtLeast() {
        TERMS.says("their WEIGHTS together must be w and a 4th of its HEIGHT (cut) at least");
        TreePlanks x = Check.planted("b0 60 0;b3 60 0;b4 60 0;b7 60 0;b8 60 0;b19 60 0;b20 60 0;"
                + "c1 0;c2 0;c3 0;c5 0;c6 0;");
        int[] due = {1, 1, 2, 2, 4, 8, 16};
        for (int b = 0; b < due.length; b++) {
            due("over BOUGH " + b, x.hoist(b, 1), due[b]);
        }
        due("5 of 5", x.hoist(0, 5), 8);
        due("6 of 6", x.hoist(0, 6), 16);
        due("7 and 4 / 4", x.hoist(2, 7), 4 + 8);
    }

    private static void hoistBoughMustBear() {
        TERMS.says("and the BOUGH must bear both (w and theirs) with what it BEARS");
        TreePlanks x = Check.planted("b0 7 0;b0 60 0;p0 1 40 1 1;c4 0;c3 0;c1 0;");
        due("3 and 4 on 7", x.hoist(0, 3), 1);
        x.stands(2, 0);
        due("3 and 3, and 1 that it BEARS", x.hoist(0, 3), 2);
        x.stands(1, 0);
        due("4 on the PLANK, 2 of them here", x.bough(0, 3), 2);
        due("3 and 3 and 2", x.hoist(0, 3), NONE);
        due("w = 1, and 4, and 2", x.hoist(0, 1), 1);
        x.stands(0, 0);
        due("those who pull STAND still: 1 and 1 and 4", x.hoist(0, 1), 4);
        due("it BEARS 4: 2 and 3 are too much", x.hoist(0, 2), NONE);
    }

    private static void hoistFewest() {
        TERMS.says("the fewest; of several the least bits; NONE");
        TreePlanks x = Check.planted("b0 60 0;c1 0;c1 0;c2 0;c3 0;c3 0;");
        due("one of 2, not two of 1", x.hoist(0, 2), 4);
        due("one of 3: the least", x.hoist(0, 3), 8);
        due("1 and 3, not 2 and 3", x.hoist(0, 4), 1 + 8);
        due("2 and 3", x.hoist(0, 5), 4 + 8);
        due("3 and 3", x.hoist(0, 6), 8 + 16);
        due("all", x.hoist(0, 10), 31);
        due("more than all", x.hoist(0, 11), NONE);
    }

    private static void rottenHoldsHalf() {
        TERMS.says("ROTTEN: just one PLANK is, and HOLDS half (cut) of what it seems");
        int[] holds = {1, 2, 3, 5, 39, 40};
        int[] half = {0, 1, 1, 2, 19, 20};
        for (int i = 0; i < holds.length; i++) {
            TreePlanks x = Check.planted(TWO + "p0 1 9 1 1;p0 1 " + holds[i] + " 1 1;");
            if (half[i] > 0) {
                x.test(1, half[i], 0);
                due("HOLDS " + holds[i] + ", bore the half: tells nothing", x.mayBe(), 3);
                x.test(1, half[i], 1);
                due("broke under the half: none", x.mayBe(), 0);
                x.forget();
            }
            x.test(1, half[i] + 1, 0);
            due("HOLDS " + holds[i] + ", bore more than half: not it", x.mayBe(), 1);
            x.forget();
            x.test(1, half[i] + 1, 1);
            due("HOLDS " + holds[i] + ", broke under more than half: it", x.mayBe(), 2);
        }
        due("just one: no PLANK, no ROTTEN one", new TreePlanks().mayBe(), 0);
        TreePlanks y = Check.planted(TWO + "p0 1 8 1 1;p0 1 8 1 1;");
        y.test(0, 5, 1);
        y.test(1, 5, 1);
        due("two can't be", y.mayBe(), 0);
    }

    private static void testsSixAtMost() {
        TERMS.says("TESTS (6 at most)");
        TreePlanks x = Check.planted(TWO + "p0 1 9 1 1;");
        for (int i = 1; i <= 6; i++) {
            due("a TEST", x.test(0, 1, 0), i);
        }
        due("a seventh", x.test(0, 5, 0), FULL);
        due("six of them", x.count(3), 6);
        due("the seventh told nothing", x.mayBe(), 1);
    }

    private static void testsOfLoad1To60() {
        TERMS.says("a PLANK bore a LOAD (1 .. 60)");
        TreePlanks x = Check.planted(TWO + "p0 1 40 1 1;");
        due("0", x.test(0, 0, 0), BAD);
        due("61", x.test(0, 61, 1), BAD);
        due("1", x.test(0, 1, 0), 1);
        due("60", x.test(0, 60, 1), 2);
        due("both agree", x.mayBe(), 1);
    }

    private static void breaksIfItHoldsLess() {
        TERMS.says("or broke under it (it breaks just if it HOLDS less)");
        TreePlanks x = Check.planted(TWO + "p0 1 9 1 1;p0 1 9 1 1;");
        x.test(0, 9, 1);
        due("a sound one bears 9", x.mayBe(), 1);
        x.forget();
        x.test(0, 10, 1);
        due("a sound one breaks under 10", x.mayBe(), 3);
        x.test(0, 10, 0);
        due("none bears 10", x.mayBe(), 0);
        x.forget();
        x.test(0, 4, 0);
        due("a ROTTEN one bears 4", x.mayBe(), 3);
        x.test(0, 9, 0);
        due("bore 9: it is the other", x.mayBe(), 2);
    }

    private static void mayBeAgrees() {
        TERMS.says("MAY BE: PLANKS (bits) which, being the one, agree with all TESTS");
        TreePlanks x = Check.planted(TWO + "p0 1 8 1 1;".repeat(6));
        due("no TESTS: all", x.mayBe(), 63);
        for (int p = 0; p < 6; p++) {
            x.test(p, 8, 0);
            due("without those that bore", x.mayBe(), 63 & -(2 << p));
        }
        x.forget();
        x.test(5, 5, 1);
        due("the sixth", x.mayBe(), 32);
        x.test(4, 5, 0);
        due("still", x.mayBe(), 32);
        x.test(5, 5, 0);
        due("TESTS that gainsay one another", x.mayBe(), 0);
    }

    private static void asked(TreePlanks x, int p, int load) {
        due("PLANK", x.ask(0), p);
        due("LOAD", x.ask(1), load);
    }

    private static void askSplitsBest() {
        TERMS.says("ASK: the PLANK and the LOAD to try next by which the greater number of those that may be it,"
                + " bearing or breaking, is least");
        TreePlanks x = Check.planted(TWO + "p0 1 6 1 1;p0 1 9 1 1;p0 1 40 1 1;p0 1 1 1 1;");
        asked(x, 0, 4);
        x.test(0, 6, 0);
        asked(x, 1, 5);
        x.test(1, 9, 0);
        asked(x, 2, 21);
        asked(Check.planted(TWO + "p0 1 4 1 1;".repeat(6)), 0, 3);
        TreePlanks six = Check.planted(TWO + "p0 1 4 1 1;".repeat(4) + "p0 1 7 1 1;p0 1 9 1 1;");
        for (int p = 0; p < 4; p++) {
            six.test(p, 4, 0);
        }
        asked(six, 4, 4);
        due("no PLANKS", new TreePlanks().ask(0), NONE);
        due("no PLANKS", Check.planted(TWO).ask(1), NONE);
    }

    private static void askLeast() {
        TERMS.says("of several the least PLANK, then the least LOAD (1 .. 40)");
        asked(Check.planted(TWO + "p0 1 1 1 1;p0 1 1 1 1;"), 0, 1);
        asked(Check.planted(TWO + "p0 1 40 1 1;p0 1 2 1 1;"), 0, 21);
        asked(Check.planted(TWO + "p0 1 39 1 1;p0 1 2 1 1;"), 0, 20);
        // of one, or of none, that may be it every trial tells as little
        asked(Check.planted(TWO + "p0 1 30 1 1;"), 0, 1);
        TreePlanks x = Check.planted(TWO + "p0 1 30 1 1;p0 1 30 1 1;");
        x.test(1, 30, 1);
        asked(x, 0, 1);
        x.test(1, 30, 0);
        due("none may be", x.mayBe(), 0);
        asked(x, 0, 1);
    }
}
