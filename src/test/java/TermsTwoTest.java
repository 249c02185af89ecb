/** Part 2 of "Terms", WEAR, LOAD and what is done: each sentence that names a boundary has a test of its own. */
public final class TermsTwoTest {
    private static final int BAD = TreePlanks.BAD, STATE = TreePlanks.STATE, NONE = TreePlanks.NONE;
    private static final int LOOSE = 0, NAILED = 1, ROPED = 2, BOLTED = 3;
    private static final int WEAR = 1, OUT = 2;
    private static final Check CHECK = new Check();
    private static final Sentences TERMS = Sentences.ofTerms(CHECK, 2);

    public static void main(String[] args) {
        wearIs0AtFirst();
        nailedGivesAt12();
        ropedGivesAt20();
        boltedGivesAt36();
        looseNeverGives();
        forceFrom1To9();
        whatLetGoWearsNoMore();
        nailedWearsByDifferenceTimesForce();
        ropedWearsByHalfCut();
        boltedWearsByAThirdCut();
        looseSlipsBy7();
        whatGivesIsOut();
        galesAreCounted();
        childStandsOnNoneAtFirst();
        loadIsWhatStandsThere();
        halvesOfALoad();
        boughBearsOfAllPlanks();
        planksHoldAsMuchAsTold();
        boughsAreAsStrongAsTold();
        outUnderALoad();
        doneAnew();
        springMakesTwoLess();
        undoneIsTheLatest();
        tenAreKnown();
        TERMS.finish();
        CHECK.finish();
    }

    private static void due(String what, long got, long want) {
        TERMS.due(what, got, want);
    }

    /** One PLANK, both ENDS of a kind, between BOUGHS whose SWAY differs by so much. */
    private static TreePlanks across(int kind, int differs) {
        return Check.planted("b0 60 0;b0 60 " + differs + ";p0 1 40 " + kind + " " + kind + ";c9 1;c1 1;");
    }

    private static void blow(TreePlanks x, int... forces) {
        for (int g : forces) {
            x.gale(g);
        }
    }

    private static void wearAndOut(TreePlanks x, int wear, int out) {
        for (int e = 0; e <= 1; e++) {
            due("WEAR of END " + e, x.end(0, e, WEAR), wear);
            due("OUT of END " + e, x.end(0, e, OUT), out);
        }
    }

    private static void wearIs0AtFirst() {
        TERMS.says("WEAR of an END (0 at first)");
        String text = "b0 60 0;b0 60 3;p0 1 40 0 1;p0 1 40 2 3;p1 0 40 1 0;p1 0 40 3 2;p0 1 40 1 1;p1 0 40 3 3;";
        TreePlanks x = Check.planted(text);
        for (int end = 0; end < 12; end++) {
            due("END " + end, x.end(end / 2, end % 2, WEAR), 0);
        }
        blow(x, 9, 9);
        Check.typed(x, text).tree();
        for (int end = 0; end < 12; end++) {
            due("END " + end + " told anew", x.end(end / 2, end % 2, WEAR), 0);
        }
    }

    private static void nailedGivesAt12() {
        TERMS.says("It GIVES: NAILED at 12 at least");
        TreePlanks x = across(NAILED, 1);
        blow(x, 9, 2);
        wearAndOut(x, 11, 0);
        blow(x, 1);
        wearAndOut(x, 12, 1);
        TreePlanks y = across(NAILED, 1);
        blow(y, 9, 4);
        wearAndOut(y, 13, 1);
        TreePlanks z = across(NAILED, 3);
        blow(z, 9);
        wearAndOut(z, 27, 1);
    }

    private static void ropedGivesAt20() {
        TERMS.says("ROPED at 20");
        TreePlanks x = across(ROPED, 2);
        blow(x, 9, 9, 1);
        wearAndOut(x, 19, 0);
        blow(x, 1);
        wearAndOut(x, 20, 1);
        TreePlanks y = across(ROPED, 2);
        blow(y, 9, 9, 3);
        wearAndOut(y, 21, 1);
    }

    private static void boltedGivesAt36() {
        TERMS.says("BOLTED at 36");
        TreePlanks x = across(BOLTED, 3);
        blow(x, 9, 9, 9, 8);
        wearAndOut(x, 35, 0);
        blow(x, 1);
        wearAndOut(x, 36, 1);
        TreePlanks y = across(BOLTED, 3);
        blow(y, 9, 9, 9, 8, 9);
        wearAndOut(y, 44, 1);
    }

    private static void looseNeverGives() {
        TERMS.says("LOOSE never by WEAR");
        TreePlanks x = across(LOOSE, 3);
        for (int i = 0; i < 400; i++) {
            x.gale(6);
        }
        wearAndOut(x, 0, 0);
    }

    private static void forceFrom1To9() {
        TERMS.says("A GALE of force g (1 .. 9)");
        TreePlanks x = across(NAILED, 1);
        due("0", x.gale(0), BAD);
        due("10", x.gale(10), BAD);
        due("none of them blew", x.now(4), 0);
        due("1", x.gale(1), 0);
        due("WEAR by 1", x.end(0, 0, WEAR), 1);
        due("9", x.gale(9), 0);
        due("WEAR by 9 more", x.end(0, 0, WEAR), 10);
    }

    private static void whatLetGoWearsNoMore() {
        TERMS.says("WEAR of each END that did not let go grows");
        TreePlanks x = Check.planted("b0 60 0;b0 60 3;p0 1 40 1 3;p1 0 40 0 3;");
        blow(x, 7);
        due("NAILED gave", x.end(0, 0, WEAR), 21);
        due("LOOSE slipped", x.end(1, 0, OUT), 1);
        blow(x, 9, 9);
        due("WEAR of the one that gave", x.end(0, 0, WEAR), 21);
        due("WEAR of the one that slipped", x.end(1, 0, WEAR), 0);
        due("the other END of PLANK 0 wears on", x.end(0, 1, WEAR), 25);
        due("the other END of PLANK 1 wears on", x.end(1, 1, WEAR), 25);
        due("they did not let go", x.count(4), 2);
    }

    private static void wornBy(int kind, int parts) {
        for (int differs = 0; differs <= 3; differs++) {
            for (int g = 1; g <= 9; g++) {
                TreePlanks up = across(kind, differs);
                up.gale(g);
                due("SWAY differs by " + differs + ", force " + g, up.end(0, 0, WEAR), differs * g / parts);
                due("likewise at END 1", up.end(0, 1, WEAR), differs * g / parts);
                TreePlanks down = Check.planted("b0 60 3;b0 60 " + (3 - differs) + ";p0 1 40 " + kind + " 0;");
                down.gale(g);
                due("the SWAY less at END 1", down.end(0, 0, WEAR), differs * g / parts);
            }
        }
    }

    private static void nailedWearsByDifferenceTimesForce() {
        TERMS.says("by how much SWAY of both BOUGHS of its PLANK differ, times g (NAILED)");
        wornBy(NAILED, 1);
        TreePlanks x = across(NAILED, 0);
        for (int i = 0; i < 50; i++) {
            x.gale(9);
        }
        wearAndOut(x, 0, 0);
    }

    private static void ropedWearsByHalfCut() {
        TERMS.says("half of that (cut, ROPED)");
        wornBy(ROPED, 2);
        TreePlanks x = across(ROPED, 1);
        blow(x, 1, 1, 1, 1, 1);
        // each GALE is cut on its own
        wearAndOut(x, 0, 0);
        blow(x, 3, 3, 3);
        wearAndOut(x, 3, 0);
    }

    private static void boltedWearsByAThirdCut() {
        TERMS.says("a third (cut, BOLTED)");
        wornBy(BOLTED, 3);
        TreePlanks x = across(BOLTED, 1);
        blow(x, 2, 2, 2);
        wearAndOut(x, 0, 0);
        blow(x, 5, 5, 8);
        wearAndOut(x, 4, 0);
    }

    private static void looseSlipsBy7() {
        TERMS.says("a LOOSE END SLIPS by g of 7 at least (it is OUT)");
        for (int differs = 0; differs <= 3; differs++) {
            for (int g = 1; g <= 9; g++) {
                TreePlanks x = across(LOOSE, differs);
                due("ENDS OUT by force " + g, x.gale(g), g >= 7 ? 2 : 0);
                wearAndOut(x, 0, g >= 7 ? 1 : 0);
            }
        }
    }

    private static void whatGivesIsOut() {
        TERMS.says("An END that GIVES is OUT");
        TreePlanks x = Check.planted("b0 60 0;b0 60 3;b0 60 0;p0 1 40 1 2;p0 2 40 1 2;");
        due("one gives", x.gale(4), 1);
        due("END 0 is OUT", x.end(0, 0, OUT), 1);
        due("END 1 is not", x.end(0, 1, OUT), 0);
        due("between BOUGHS alike none gives", x.end(1, 0, OUT) + x.end(1, 1, OUT), 0);
        due("it stays OUT", x.gale(1), 1);
        x.spring();
        due("behind a SPRING, too", x.end(0, 0, OUT), 1);
    }

    /** More calls than the document's 512 are needed for it; of what comes behind them it promises nothing. */
    private static void galesAreCounted() {
        TERMS.says("GALES are counted (999 at most)");
        TreePlanks x = across(NAILED, 0);
        due("none at first", x.now(4), 0);
        for (int n = 1; n <= 999; n++) {
            x.gale(1);
            if (n == 1 || n == 255 || n == 256 || n == 400 || n >= 998) {
                due("GALES", x.now(4), n);
            }
        }
        due("a 1000th", x.gale(1), STATE);
        due("a 1000th, of no force", x.gale(0), BAD);
        due("GALES still", x.now(4), 999);
        due("one UNDONE", x.undo(), 9);
        due("then there is room", x.gale(1), 0);
    }

    private static void childStandsOnNoneAtFirst() {
        TERMS.says("A child STANDS on a PLANK, or on none (at first)");
        TreePlanks x = Check.planted("b0 60 0;b0 60 0;p0 1 40 1 1;c1 0;c2 0;c3 0;c4 0;c5 0;");
        for (int c = 0; c < 5; c++) {
            due("child " + c, x.child(c, 2), NONE);
        }
        due("no LOAD", x.plank(0, 3), 0);
        due("on a PLANK", x.stands(4, 0), NONE);
        due("child 4", x.child(4, 2), 0);
        due("child 3", x.child(3, 2), NONE);
        due("on none", x.stands(4, NONE), 0);
        due("child 4", x.child(4, 2), NONE);
    }

    private static void loadIsWhatStandsThere() {
        TERMS.says("What stands on a PLANK is its LOAD");
        TreePlanks x = Check.planted("b0 60 0;b0 60 0;p0 1 1 1 1;p0 1 40 1 1;" + "c9 0;".repeat(5));
        for (int c = 0; c < 5; c++) {
            x.stands(c, 0);
            due("LOAD", x.plank(0, 3), 9 * (c + 1));
        }
        due("though it HOLDS 1", x.plank(0, 2), 1);
        due("the other PLANK", x.plank(1, 3), 0);
        x.stands(2, 1);
        due("one goes", x.plank(0, 3), 36);
        due("over to the other", x.plank(1, 3), 9);
        x.stands(2, 1);
        due("none counts twice", x.plank(1, 3), 9);
    }

    private static void halvesOfALoad() {
        TERMS.says("to the BOUGH of END 0 comes half of it, cut upwards, to the other one the rest");
        int[] upper = {0, 1, 1, 2, 2, 3, 3, 4, 4, 5};
        for (int weight = 1; weight <= 9; weight++) {
            TreePlanks x = Check.planted("b0 60 0;b0 60 0;p1 0 40 1 1;c" + weight + " 0;");
            x.stands(0, 0);
            due("END 0, LOAD " + weight, x.bough(1, 3), upper[weight]);
            due("END 1, LOAD " + weight, x.bough(0, 3), weight - upper[weight]);
        }
        TreePlanks y = Check.planted("b0 60 0;b0 60 0;p0 1 40 1 1;c1 0;c1 0;c3 0;");
        y.stands(0, 0);
        y.stands(1, 0);
        due("two of 1 are 2 together", y.bough(0, 3), 1);
        due("the rest", y.bough(1, 3), 1);
        y.stands(2, 0);
        due("5 together", y.bough(0, 3), 3);
        due("the rest", y.bough(1, 3), 2);
    }

    private static void boughBearsOfAllPlanks() {
        TERMS.says("a BOUGH BEARS what comes to it of all PLANKS");
        TreePlanks x = Check.planted("b0 60 0;b0 60 3;b0 60 0;p0 1 40 1 1;p1 0 40 1 1;p0 1 40 0 0;p1 2 40 1 1;"
                + "p2 1 40 1 1;c1 0;c3 0;c5 0;c7 0;c9 0;");
        for (int c = 0; c < 5; c++) {
            x.stands(c, c);
        }
        due("1 + 1 + 3", x.bough(0, 3), 5);
        due("0 + 2 + 2 + 4 + 4", x.bough(1, 3), 12);
        due("3 + 5", x.bough(2, 3), 8);
        blow(x, 9);
        due("ENDS that are OUT change nothing of it", x.bough(1, 3), 12);
        due("all are OUT", x.count(4), 10);
    }

    private static void planksHoldAsMuchAsTold() {
        TERMS.says("It HOLDS all, if no PLANK has more LOAD than HOLDS");
        TreePlanks x = Check.planted("b0 60 0;b0 60 0;p0 1 40 1 1;p0 1 1 1 1;c9 0;c9 0;c9 0;c9 0;c4 0;");
        for (int c = 0; c < 5; c++) {
            x.stands(c, 0);
        }
        due("40", x.plank(0, 3), 40);
        due("HOLDS", x.now(0), 1);
        TreePlanks y = Check.planted("b0 60 0;b0 60 0;p0 1 39 1 1;c9 0;c9 0;c9 0;c9 0;c4 0;");
        for (int c = 0; c < 5; c++) {
            y.stands(c, 0);
        }
        due("one more than 39", y.now(0), 0);
        due("it is PLANK 0", y.now(1), 0);
        TreePlanks z = Check.planted("b0 60 0;b0 60 0;p0 1 1 1 1;c1 0;c1 0;");
        z.stands(0, 0);
        due("1 of 1", z.now(0), 1);
        z.stands(1, 0);
        due("2 of 1", z.now(0), 0);
    }

    private static void boughsAreAsStrongAsTold() {
        TERMS.says("no BOUGH BEARS more than STRONG");
        TreePlanks x = Check.planted("b0 5 0;b0 4 0;p0 1 40 1 1;c9 0;c1 0;c1 0;");
        x.stands(0, 0);
        due("5 of 5, 4 of 4", x.now(0), 1);
        x.stands(1, 0);
        due("5 of 5, 5 of 4", x.now(0), 0);
        due("it is BOUGH 1", x.now(2), 1);
        x.stands(2, 0);
        due("6 of 5, 5 of 4: the first", x.now(2), 0);
    }

    private static void outUnderALoad() {
        TERMS.says("and no PLANK with a LOAD has an END that is OUT");
        TreePlanks x = Check.planted("b0 60 0;b0 60 3;p0 1 40 1 3;p0 1 40 3 1;p0 1 40 3 3;c1 0;");
        blow(x, 4);
        due("two ENDS are OUT", x.count(4), 2);
        due("no LOAD there", x.now(0), 1);
        x.stands(0, 0);
        due("END 0 is OUT", x.now(0), 0);
        due("it is PLANK 0", x.now(3), 0);
        x.stands(0, 1);
        due("END 1 is OUT", x.now(0), 0);
        due("it is PLANK 1", x.now(3), 1);
        x.stands(0, 2);
        due("a sound PLANK", x.now(0), 1);
    }

    private static void doneAnew() {
        TERMS.says("An END is DONE ANEW as of a kind: WEAR 0, not OUT");
        for (int was = LOOSE; was <= BOLTED; was++) {
            for (int kind = LOOSE; kind <= BOLTED; kind++) {
                TreePlanks x = across(was, 3);
                blow(x, 7, 9, 9, 9, 9);
                due("OUT", x.end(0, 0, OUT), 1);
                due("was", x.join(0, 0, kind), was);
                due("kind", x.end(0, 0, 0), kind);
                due("WEAR", x.end(0, 0, WEAR), 0);
                due("not OUT", x.end(0, 0, OUT), 0);
                due("the other END is OUT still", x.end(0, 1, OUT), 1);
            }
        }
        TreePlanks y = across(NAILED, 3);
        blow(y, 3);
        y.join(0, 0, NAILED);
        due("of the same kind: WEAR 0", y.end(0, 0, WEAR), 0);
        due("the other END", y.end(0, 1, WEAR), 9);
    }

    private static void springMakesTwoLess() {
        TERMS.says("A SPRING: bark grows: WEAR of each NAILED END that is not OUT is 2 less (0 at least)");
        int[] left = {0, 0, 0, 1, 2};
        for (int worn = 0; worn <= 4; worn++) {
            TreePlanks x = across(NAILED, 1);
            if (worn > 0) {
                x.gale(worn);
            }
            due("of how many, WEAR " + worn, x.spring(), worn > 0 ? 2 : 0);
            wearAndOut(x, left[worn], 0);
        }
        TreePlanks y = Check.planted("b0 60 0;b0 60 3;p0 1 40 2 3;p0 1 40 0 1;");
        blow(y, 4);
        due("NAILED is OUT", y.end(1, 1, OUT), 1);
        due("no other kind, none that is OUT", y.spring(), 0);
        due("ROPED", y.end(0, 0, WEAR), 6);
        due("BOLTED", y.end(0, 1, WEAR), 4);
        due("LOOSE", y.end(1, 0, WEAR), 0);
        due("OUT", y.end(1, 1, WEAR), 12);
        TreePlanks z = across(NAILED, 1);
        blow(z, 9, 2);
        z.spring();
        blow(z, 2);
        wearAndOut(z, 11, 0);
        blow(z, 1);
        wearAndOut(z, 12, 1);
    }

    private static void undoneIsTheLatest() {
        TERMS.says("UNDONE: the latest stands(), gale(), join(), spring() that was not refused");
        TreePlanks x = across(NAILED, 1);
        String bare = Check.seen(x);
        x.stands(0, 0);
        x.stands(7, 0);
        String stood = Check.seen(x);
        x.gale(5);
        x.gale(0);
        String blown = Check.seen(x);
        x.join(0, 0, BOLTED);
        x.join(0, 0, 4);
        String joined = Check.seen(x);
        x.spring();
        due("a spring", x.undo(), 3);
        TERMS.same("as joined", Check.seen(x), joined);
        due("a join", x.undo(), 2);
        TERMS.same("as blown", Check.seen(x), blown);
        due("a gale", x.undo(), 1);
        TERMS.same("as stood", Check.seen(x), stood);
        due("a child", x.undo(), 0);
        TERMS.same("as at first", Check.seen(x), bare);
        due("none is left", x.undo(), STATE);
        TERMS.same("as at first", Check.seen(x), bare);
    }

    private static void tenAreKnown() {
        TERMS.says("(10 are known, older ones are lost)");
        TreePlanks x = across(NAILED, 1);
        for (int i = 1; i <= 10; i++) {
            x.gale(1);
            due("known", x.now(5), i);
        }
        for (int i = 9; i >= 0; i--) {
            due("of ten", x.undo(), i);
        }
        wearAndOut(x, 0, 0);
        for (int i = 1; i <= 11; i++) {
            x.gale(1);
        }
        due("known of eleven", x.now(5), 10);
        for (int i = 9; i >= 0; i--) {
            due("of eleven", x.undo(), i);
        }
        due("the first is lost", x.undo(), STATE);
        wearAndOut(x, 1, 0);
        // older ones stay lost, though newer ones were UNDONE between
        for (int i = 0; i < 12; i++) {
            x.spring();
        }
        for (int i = 0; i < 5; i++) {
            x.undo();
        }
        x.stands(0, 0);
        due("five and one", x.now(5), 6);
        for (int i = 5; i >= 0; i--) {
            due("of six", x.undo(), i);
        }
        due("no more", x.undo(), STATE);
        due("on none", x.child(0, 2), NONE);
    }
}
