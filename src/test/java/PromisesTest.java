/** Promise by promise: ordinary inputs, the edges that the document names, wrong inputs; answers worked out by hand. */
public final class PromisesTest {
    private static final int BAD = TreePlanks.BAD, STATE = TreePlanks.STATE, FULL = TreePlanks.FULL;
    private static final int NONE = TreePlanks.NONE, NO = TreePlanks.NO;
    private static final Check CHECK = new Check();

    /** Three BOUGHS of SWAY 0, 2, 3; PLANKS 0-1, 1-2, 0-2; three CHILDREN. */
    private static final String SMALL = "b9 10 0;b9 6 2;b11 8 3;p0 1 7 1 2;p1 2 12 0 3;p0 2 4 1 1;c3 5;c4 2;c6 0;";

    public static void main(String[] args) {
        newObject();
        typeAndClear();
        treeTells();
        treeFaults();
        treeTellsAllAnew();
        boughs();
        planks();
        ends();
        children();
        nowAnswers();
        standsMoves();
        galesWear();
        joins();
        springs();
        undoes();
        mostAndRichest();
        firstOuts();
        holdsFors();
        boltsHelp();
        oddsAre();
        ordersAndBarred();
        hoists();
        rotten();
        rates();
        images();
        counts();
        CHECK.finish();
    }

    private static void due(String what, long got, long want) {
        CHECK.due(what, got, want);
    }

    private static void newObject() {
        TreePlanks x = new TreePlanks();
        for (int what = 0; what <= 5; what++) {
            due("new: count " + what, x.count(what), 0);
        }
        due("new: now 0", x.now(0), 1);
        due("new: now 1", x.now(1), NONE);
        due("new: now 2", x.now(2), NONE);
        due("new: now 3", x.now(3), NONE);
        due("new: now 4", x.now(4), 0);
        due("new: now 5", x.now(5), 0);
        due("new: trace", x.trace(), 0);
        due("new: undo", x.undo(), STATE);
        due("new: back", x.back(0), STATE);
        due("new: most", x.most(NONE), 0);
        due("new: richest", x.richest(NONE), 0);
        due("new: bough", x.bough(0, 0), BAD);
        due("new: plank", x.plank(0, 0), BAD);
        due("new: end", x.end(0, 0, 0), BAD);
        due("new: child", x.child(0, 0), BAD);
        due("new: stands", x.stands(0, NONE), BAD);
        due("new: ask", x.ask(1), NONE);
        due("new: hoist", x.hoist(0, 1), BAD);
        due("constants", TreePlanks.BAD * 1000L + TreePlanks.STATE * 100 + TreePlanks.FULL * 10 + NONE, -1239);
        due("NO", NO, -1000000);
    }

    private static void typeAndClear() {
        TreePlanks x = new TreePlanks();
        due("type(-1)", x.type(-1), BAD);
        due("type(256)", x.type(256), BAD);
        due("type(0)", x.type(0), 1);
        due("type(255)", x.type(255), 2);
        due("clear", x.clear(), 2);
        due("clear again", x.clear(), 0);
        for (int i = 1; i <= 200; i++) {
            due("type", x.type(' '), i);
        }
        due("type 201st", x.type(' '), FULL);
        due("type 201st, wrong", x.type(256), BAD);
        due("letters", x.count(5), 200);
        due("200 blanks", x.tree(), 0);
        due("letters then", x.count(5), 0);
        due("type then", x.type('b'), 1);
    }

    private static void treeTells() {
        TreePlanks x = Check.typed(new TreePlanks(), " b 0 1 0 ;c9 0;b2 60 3; p 1 0 40 3 0;c 1 9 ;  ");
        due("tree", x.tree(), 5);
        due("text", x.count(5), 0);
        due("boughs", x.count(0), 2);
        due("planks", x.count(1), 1);
        due("children", x.count(2), 2);
        due("tree of an empty text", x.tree(), 0);
        due("bare", x.count(0) + x.count(1) + x.count(2), 0);
        // a tree told twice over, a faulty one between: nothing of an earlier text stays
        Check.typed(x, "b0 1 0;b0 1 0;p0 1 1 1 1;c1 1;x");
        due("a fault", x.tree(), -10 - 30);
        x.clear();
        Check.typed(x, "b3 1 0;");
        due("one bough", x.tree(), 1);
        due("just that", x.count(0) * 100 + x.count(1) * 10 + x.count(2), 100);
        due("its height", x.bough(0, 0), 3);
    }

    private static void fault(String text, int place) {
        TreePlanks x = Check.planted(SMALL);
        x.stands(0, 0);
        Check.typed(x, text);
        due("fault of '" + text + "'", x.tree(), -10 - place);
        due("text behind the fault", x.count(5), text.length());
        due("boughs behind the fault", x.count(0), 3);
        due("height behind the fault", x.bough(2, 0), 11);
        due("child behind the fault", x.child(0, 2), 0);
        due("undo behind the fault", x.now(5), 1);
    }

    private static void treeFaults() {
        fault("x", 0);
        fault(";", 0);
        fault("5", 0);
        fault("b", 1);
        fault("b1", 2);
        fault("b1 2 3", 6);
        fault("b1 2 3  ", 8);
        fault("b1 2 3 4;", 7);
        fault("b1 2;", 4);
        fault("b1 b", 3);
        fault("b 100 1 1;", 2);
        fault("b 05 1 1;", 2);
        fault("b 00 1 1;", 2);
        fault("b 0 01 1;", 4);
        fault("b 1000000000000 1 1;", 2);
        fault("b21 1 0;", 1);
        fault("b0 0 0;", 3);
        fault("b0 61 0;", 3);
        fault("b0 1 4;", 5);
        fault("b0 1 0;B0 1 0;", 7);
        fault("b0 1 0;\t", 7);
        fault("b0 1 0;b0 1 0 x", 14);
        fault("b0 1 0;b0 1 0;p2 0 1 1 1;", 15);
        fault("b0 1 0;b0 1 0;p0 2 1 1 1;", 17);
        fault("b0 1 0;b0 1 0;p1 1 1 1 1;", 17);
        fault("b0 1 0;b3 1 0;p0 1 1 1 1;", 17);
        fault("b3 1 0;b0 1 0;p0 1 1 1 1;", 17);
        fault("b0 1 0;b2 1 0;p0 1 0 1 1;", 19);
        fault("b0 1 0;b2 1 0;p0 1 41 1 1;", 19);
        fault("b0 1 0;b2 1 0;p0 1 1 4 1;", 21);
        fault("b0 1 0;b2 1 0;p0 1 1 1 4;", 23);
        fault("b0 1 0;b2 1 0;p0 1 1 1 1", 24);
        fault("b0 1 0;p0 1 1 1 1;b2 1 0;", 10);
        fault("c0 0;", 1);
        fault("c10 0;", 1);
        fault("c1 10;", 3);
        fault("c1;", 2);
        fault("b0 1 0;".repeat(8) + " b", 57);
        fault("c1 1;".repeat(5) + "c", 25);
        fault("b0 1 0;b0 1 0;" + "p0 1 1 1 1;".repeat(6) + "p", 80);
        // the first TOKEN that can't stand counts, though a letter behind it is none at all
        fault("b0 0 0;?", 3);
        TreePlanks x = Check.typed(new TreePlanks(), "b0 1 0;".repeat(8) + "c1 1;".repeat(5));
        due("eight boughs, five children", x.tree(), 13);
        Check.typed(x, "b0 1 0;b2 1 0;" + "p0 1 1 1 1;".repeat(6));
        due("six planks", x.tree(), 8);
    }

    private static void treeTellsAllAnew() {
        TreePlanks x = Check.planted(SMALL);
        x.stands(0, 0);
        x.gale(9);
        x.keep(0);
        x.keep(1);
        x.test(0, 1, 0);
        x.rate(0, 0);
        Check.typed(x, SMALL).tree();
        due("anew: child", x.child(0, 2), NONE);
        due("anew: wear", x.end(0, 0, 1), 0);
        due("anew: out", x.count(4), 0);
        due("anew: gales", x.now(4), 0);
        due("anew: undo", x.undo(), STATE);
        due("anew: tests", x.count(3), 0);
        due("anew: image 0", x.back(0), STATE);
        due("anew: image 1", x.back(1), STATE);
        due("anew: trace stays", x.trace(), 1);
    }

    private static void boughs() {
        TreePlanks x = Check.planted(SMALL);
        due("height", x.bough(2, 0), 11);
        due("strong", x.bough(1, 1), 6);
        due("sway", x.bough(2, 2), 3);
        due("bears nothing", x.bough(0, 3), 0);
        // 3 on PLANK 0: 2 and 1; 4 on PLANK 0 too: 7, so 4 and 3, not 2 + 2 and 1 + 2
        x.stands(0, 0);
        due("half, cut upwards", x.bough(0, 3), 2);
        due("the rest", x.bough(1, 3), 1);
        x.stands(1, 0);
        due("half of all", x.bough(0, 3), 4);
        x.stands(2, 1);
        due("of all planks", x.bough(1, 3), 6);
        due("of one", x.bough(2, 3), 3);
        due("no bough 3", x.bough(3, 0), BAD);
        due("no bough -1", x.bough(-1, 0), BAD);
        due("what 4", x.bough(0, 4), BAD);
        due("what -1", x.bough(0, -1), BAD);
    }

    private static void planks() {
        TreePlanks x = Check.planted(SMALL);
        due("at one", x.plank(1, 0), 1);
        due("at the other", x.plank(1, 1), 2);
        due("holds", x.plank(1, 2), 12);
        due("no load", x.plank(1, 3), 0);
        x.stands(0, 1);
        x.stands(2, 1);
        due("load", x.plank(1, 3), 9);
        due("no plank 3", x.plank(3, 0), BAD);
        due("no plank -1", x.plank(-1, 0), BAD);
        due("what 4", x.plank(0, 4), BAD);
        due("what -1", x.plank(0, -1), BAD);
    }

    private static void ends() {
        TreePlanks x = Check.planted(SMALL);
        due("nailed", x.end(0, 0, 0), 1);
        due("roped", x.end(0, 1, 0), 2);
        due("loose", x.end(1, 0, 0), 0);
        due("bolted", x.end(1, 1, 0), 3);
        due("wear", x.end(0, 0, 1), 0);
        due("out", x.end(0, 0, 2), 0);
        x.gale(7);
        due("wear then", x.end(0, 0, 1), 14);
        due("out then", x.end(0, 0, 2), 1);
        due("slipped", x.end(1, 0, 2), 1);
        due("no wear of a loose one", x.end(1, 0, 1), 0);
        due("end 2", x.end(0, 2, 0), BAD);
        due("end -1", x.end(0, -1, 0), BAD);
        due("no plank", x.end(3, 0, 0), BAD);
        due("what 3", x.end(0, 0, 3), BAD);
        due("what -1", x.end(0, 0, -1), BAD);
    }

    private static void children() {
        TreePlanks x = Check.planted(SMALL);
        due("weight", x.child(2, 0), 6);
        due("paid", x.child(0, 1), 5);
        due("on none", x.child(0, 2), NONE);
        x.stands(0, 2);
        due("on a plank", x.child(0, 2), 2);
        due("no child 3", x.child(3, 0), BAD);
        due("no child -1", x.child(-1, 0), BAD);
        due("what 3", x.child(0, 3), BAD);
        due("what -1", x.child(0, -1), BAD);
    }

    private static void nowAnswers() {
        TreePlanks x = Check.planted("b0 4 0;b0 9 3;b0 9 0;p0 1 7 1 1;p1 2 7 1 0;p1 2 20 1 1;c7 0;c1 0;c9 0;c9 0;");
        x.stands(0, 0);
        due("just holds: 0", x.now(0), 1);
        x.stands(1, 0);
        due("too much load", x.now(1), 0);
        due("but no bough", x.now(2), NONE);
        due("does not hold", x.now(0), 0);
        x.stands(1, NONE);
        x.stands(0, NONE);
        x.stands(2, 2);
        x.stands(3, 2);
        due("a plank of 18", x.now(1), NONE);
        due("boughs of 9", x.now(2), NONE);
        due("hold", x.now(0), 1);
        x.stands(1, 2);
        due("a bough too much", x.now(2), 1);
        due("so no", x.now(0), 0);
        x.stands(1, NONE);
        x.gale(5);
        due("an end out under a load", x.now(3), 2);
        due("so no", x.now(0), 0);
        x.stands(2, NONE);
        x.stands(3, NONE);
        due("without a load", x.now(3), NONE);
        due("so yes", x.now(0), 1);
        due("gales", x.now(4), 1);
        due("undo", x.now(5), 10);
        due("what 6", x.now(6), BAD);
        due("what -1", x.now(-1), BAD);
    }

    private static void standsMoves() {
        TreePlanks x = Check.planted(SMALL);
        due("stood on none", x.stands(1, 2), NONE);
        due("stood on 2", x.stands(1, 2), 2);
        due("off", x.stands(1, NONE), 2);
        due("off again", x.stands(1, NONE), NONE);
        due("all four known", x.now(5), 4);
        due("no child", x.stands(3, 0), BAD);
        due("no child -1", x.stands(-1, 0), BAD);
        due("no plank", x.stands(0, 3), BAD);
        due("no plank -1", x.stands(0, -1), BAD);
        due("no plank -8", x.stands(0, -8), BAD);
        due("nothing changed", x.now(5), 4);
    }

    private static void galesWear() {
        // SWAY differs by 3
        TreePlanks x = Check.planted("b0 9 0;b0 9 3;b0 9 0;p1 0 9 1 2;p0 1 9 3 0;p0 2 9 1 0;c1 0;");
        due("gale 0", x.gale(0), BAD);
        due("gale 10", x.gale(10), BAD);
        due("gale -1", x.gale(-1), BAD);
        due("none blew", x.now(4), 0);
        due("gale 3", x.gale(3), 0);
        due("nailed", x.end(0, 0, 1), 9);
        due("roped, cut", x.end(0, 1, 1), 4);
        due("bolted", x.end(1, 0, 1), 3);
        due("loose", x.end(1, 1, 1), 0);
        due("alike boughs", x.end(2, 0, 1), 0);
        due("gale 1", x.gale(1), 1);
        due("nailed at 12", x.end(0, 0, 2), 1);
        due("gale 6", x.gale(6), 1);
        due("out: wear stays", x.end(0, 0, 1), 12);
        due("roped 4 + 1 + 9", x.end(0, 1, 1), 14);
        due("loose at 6", x.end(1, 1, 2), 0);
        due("gale 4", x.gale(4), 2);
        due("roped at 20", x.end(0, 1, 1), 20);
        due("gale 7", x.gale(7), 4);
        due("both loose ones slip", x.end(1, 1, 2) + x.end(2, 1, 2), 2);
        due("bolted 3 + 1 + 6 + 4 + 7", x.end(1, 0, 1), 21);
        due("gale 9", x.gale(9), 4);
        due("gale 5", x.gale(5), 4);
        due("bolted 35", x.end(1, 0, 1), 35);
        due("gale 1", x.gale(1), 5);
        due("bolted at 36", x.end(1, 0, 2), 1);
        due("gales", x.now(4), 8);
        // 2 * 5 cut to a third
        TreePlanks y = Check.planted("b0 9 0;b0 9 2;p0 1 9 3 2;");
        y.gale(5);
        due("a third, cut", y.end(0, 0, 1), 3);
        due("a half", y.end(0, 1, 1), 5);
    }

    private static void joins() {
        TreePlanks x = Check.planted(SMALL);
        x.gale(7);
        due("was nailed", x.join(0, 0, 3), 1);
        due("wear 0", x.end(0, 0, 1), 0);
        due("not out", x.end(0, 0, 2), 0);
        due("bolted now", x.end(0, 0, 0), 3);
        due("was bolted", x.join(0, 0, 0), 3);
        due("was loose", x.join(0, 0, 0), 0);
        due("the other end was roped", x.join(0, 1, 1), 2);
        due("end 1 of plank 1 was bolted", x.join(1, 1, 2), 3);
        due("end 0 of plank 2 was nailed", x.join(2, 0, 0), 1);
        due("known", x.now(5), 7);
        due("kind 4", x.join(0, 0, 4), BAD);
        due("kind -1", x.join(0, 0, -1), BAD);
        due("end 2", x.join(0, 2, 0), BAD);
        due("end -1", x.join(0, -1, 0), BAD);
        due("plank 3", x.join(3, 0, 0), BAD);
        due("plank -1", x.join(-1, 0, 0), BAD);
        due("known still", x.now(5), 7);
    }

    private static void springs() {
        TreePlanks x = Check.planted("b0 9 0;b0 9 1;b0 9 3;p0 1 9 1 2;p0 2 9 1 3;p0 2 9 1 1;p0 1 9 1 0;");
        due("none worn", x.spring(), 0);
        x.gale(3);
        x.join(2, 0, 1);
        due("nailed 3, 9, 0, 9, 3", x.spring(), 4);
        due("3 less 2", x.end(0, 0, 1), 1);
        due("9 less 2", x.end(1, 0, 1), 7);
        due("0 stays", x.end(2, 0, 1), 0);
        due("roped stays", x.end(0, 1, 1), 1);
        due("bolted stays", x.end(1, 1, 1), 3);
        due("1 less 2", x.spring(), 4);
        due("0 at least", x.end(0, 0, 1), 0);
        x.gale(5);
        due("5 + 15 out", x.end(1, 0, 2), 1);
        due("out ones stay", x.spring(), 2);
        due("wear of one out", x.end(1, 0, 1), 20);
    }

    private static void undoes() {
        TreePlanks x = Check.planted(SMALL);
        x.stands(0, 1);
        x.gale(7);
        x.spring();
        x.join(1, 0, 2);
        due("join undone", x.undo(), 3);
        due("loose again", x.end(1, 0, 0), 0);
        due("out again", x.end(1, 0, 2), 1);
        due("spring undone", x.undo(), 2);
        due("gale undone", x.undo(), 1);
        due("gales", x.now(4), 0);
        due("wear", x.end(0, 0, 1), 0);
        due("outs", x.count(4), 0);
        due("stands undone", x.undo(), 0);
        due("on none", x.child(0, 2), NONE);
        due("none", x.undo(), STATE);
        for (int i = 0; i < 12; i++) {
            x.gale(1);
        }
        due("ten known", x.now(5), 10);
        for (int i = 9; i >= 0; i--) {
            due("undo", x.undo(), i);
        }
        due("older ones are lost", x.undo(), STATE);
        due("two gales stay", x.now(4), 2);
        // what is refused, or changes nothing of NOW, is none to be UNDONE
        x.gale(0);
        x.stands(9, 9);
        x.join(9, 9, 9);
        x.keep(0);
        x.test(0, 1, 0);
        x.most(NONE);
        due("none known", x.undo(), STATE);
        x.spring();
        due("a spring", x.undo(), 0);
    }

    private static void mostAndRichest() {
        TreePlanks x = Check.planted(SMALL);
        x.stands(0, 2);
        x.stands(1, 2);
        due("most", x.most(NONE), 3);
        due("most 0", x.most(0), 0);
        due("most 1", x.most(1), 0);
        due("most 2", x.most(2), 1);
        due("richest", x.richest(NONE), 7);
        due("richest 0", x.richest(0), 0);
        due("richest 1", x.richest(1), 0);
        due("richest 2 (paid nothing)", x.richest(2), -5);
        due("stands as it stood", x.child(0, 2) + x.child(1, 2), 4);
        due("no child", x.most(3), BAD);
        due("no child -1", x.most(-1), BAD);
        due("richest no child", x.richest(3), BAD);
        due("richest no child -1", x.richest(-5), BAD);
        x.gale(9);
        due("with ends out", x.most(NONE), 0);
        due("on none", x.most(0), -5);
        due("richest with ends out", x.richest(NONE), 0);
        // just one of both has room: the first row has child 0; the richest is child 1
        TreePlanks y = Check.planted("b4 9 1;b5 9 3;c4 3;c7 8;p1 0 10 1 0;");
        due("one", y.most(NONE), 1);
        due("child 0", y.most(0), 0);
        due("child 1", y.most(1), -5);
        due("rich", y.richest(NONE), 8);
        due("rich child 0", y.richest(0), -5);
        due("rich child 1", y.richest(1), 0);
        // 5 is paid by child 2 alone or by 0 and 1 together: fewer CHILDREN count
        TreePlanks z = Check.planted("b0 9 0;b0 9 0;p0 1 4 1 1;c2 2;c2 3;c4 5;");
        due("fewer", z.richest(NONE), 5);
        due("not 0", z.richest(0), -5);
        due("not 1", z.richest(1), -5);
        due("but 2", z.richest(2), 0);
        due("most two", z.most(NONE), 2);
        due("most 2", z.most(2), -5);
        // a BOUGH bounds it, cut upwards at END 0
        TreePlanks w = Check.planted("b0 2 0;b0 9 0;p0 1 9 1 1;p1 0 9 1 1;c5 1;");
        due("end 0 has the greater half", w.most(0), 1);
        // the third PLANK has an END OUT, the fourth is sound; weights that stood there ahead don't count
        TreePlanks v = Check.planted("b0 9 0;b0 9 3;b0 1 0;b0 9 0;p1 0 9 3 1;p0 1 9 1 3;p0 1 9 3 0;p0 3 9 2 2;"
                + "c9 1;c9 1;");
        v.gale(7);
        due("one finds room", v.most(NONE), 1);
        due("on the fourth", v.most(0), 3);
        due("once more", v.most(0), 3);
        due("the other has none", v.richest(1), -5);
    }

    private static void firstOuts() {
        TreePlanks x = Check.planted(SMALL);
        due("gales of 3", x.firstOut(3, 0), 2);
        due("the least of several", x.firstOut(3, 1), 0);
        due("one of 7", x.firstOut(7, 0), 1);
        due("end of 7", x.firstOut(7, 1), 0);
        due("nothing changed", x.now(4) + x.end(0, 0, 1) + x.now(5), 0);
        x.gale(5);
        due("out now does not count", x.firstOut(1, 1), 0);
        due("behind", x.firstOut(1, 0), 1);
        TreePlanks y = Check.planted("b0 9 0;b0 9 1;p0 1 9 0 3;");
        due("bolted: 1 a gale of 3", y.firstOut(3, 0), 36);
        due("its end", y.firstOut(3, 1), 1);
        due("2 / 3 is 0", y.firstOut(2, 0), NONE);
        due("no end", y.firstOut(2, 1), NONE);
        due("a loose one", y.firstOut(8, 1), 0);
        TreePlanks z = Check.planted("b0 9 0;b0 9 0;p0 1 9 1 2;");
        due("alike boughs", z.firstOut(9, 0), NONE);
        due("g 0", x.firstOut(0, 0), BAD);
        due("g 10", x.firstOut(10, 0), BAD);
        due("what 2", x.firstOut(1, 2), BAD);
        due("what -1", x.firstOut(1, -1), BAD);
    }

    private static void holdsFors() {
        TreePlanks x = Check.planted("b0 9 0;b0 9 1;p0 1 9 3 1;p0 1 9 0 0;c5 0;c5 0;");
        due("no load", x.holdsFor(9), NONE);
        x.stands(0, 0);
        due("nailed, 1 a gale", x.holdsFor(1), 12);
        due("9 and 9", x.holdsFor(9), 2);
        x.join(0, 1, 3);
        due("bolted, 1 a gale", x.holdsFor(3), 36);
        due("2 / 3", x.holdsFor(2), NONE);
        x.stands(0, 1);
        due("loose", x.holdsFor(6), NONE);
        due("loose slips", x.holdsFor(7), 1);
        x.stands(1, 1);
        due("not even now", x.holdsFor(1), 0);
        due("g 0", x.holdsFor(0), BAD);
        due("g 10", x.holdsFor(10), BAD);
        due("nothing changed", x.now(4), 0);
    }

    private static void boltsHelp() {
        TreePlanks x = Check.planted("b0 9 0;b0 9 3;p0 1 9 1 2;p0 1 9 3 0;");
        due("behind one of 4", x.bolts(4, 1, 0), 1);
        due("it helps", x.bolts(4, 1, 1), 1);
        due("behind four of 7", x.bolts(7, 4, 0), 1 + 2 + 8);
        due("all of it helps", x.bolts(7, 4, 1), 1 + 2 + 8);
        due("behind six of 6", x.bolts(6, 6, 0), 1 + 2 + 4);
        due("nothing helps", x.bolts(6, 6, 1), 0);
        x.gale(5);
        due("out now is none of them", x.bolts(6, 6, 0), 2 + 4);
        due("bolted anew: 36 once more", x.bolts(6, 6, 1), 0);
        due("a worn bolt stays just below 36", x.bolts(6, 5, 0), 2);
        due("a worn bolt gives", x.bolts(7, 5, 0), 2 + 4 + 8);
        due("where one done anew would not", x.bolts(7, 5, 1), 2 + 4 + 8);
        due("n 30", x.bolts(1, 30, 0), 2);
        due("n 0", x.bolts(1, 0, 0), BAD);
        due("n 31", x.bolts(1, 31, 0), BAD);
        due("g 0", x.bolts(0, 1, 0), BAD);
        due("g 10", x.bolts(10, 1, 0), BAD);
        due("what 2", x.bolts(1, 1, 2), BAD);
        due("what -1", x.bolts(1, 1, -1), BAD);
        due("nothing changed", x.now(4), 1);
    }

    private static void oddsAre() {
        TreePlanks x = Check.planted("b0 9 0;b0 9 3;b0 9 0;p0 1 9 1 0;p0 2 9 1 1;");
        due("no gale: upper", x.odds(0, 0, 0, 0), 1);
        due("no gale: lower", x.odds(0, 0, 0, 1), 1);
        due("1 to 3 of 6", x.odds(0, 0, 1, 0), 1);
        due("a half", x.odds(0, 0, 1, 1), 2);
        due("sums below 4: 3 of 36", x.odds(0, 0, 2, 0), 1);
        due("a twelfth", x.odds(0, 0, 2, 1), 12);
        due("1 of 216", x.odds(0, 0, 3, 1), 216);
        due("none of 1296", x.odds(0, 0, 4, 0), 0);
        due("0 / 1", x.odds(0, 0, 4, 1), 1);
        due("loose stays", x.odds(0, 1, 6, 0), 1);
        due("loose stays: lower", x.odds(0, 1, 6, 1), 1);
        due("alike boughs", x.odds(1, 0, 6, 0), 1);
        TreePlanks y = Check.planted("b0 9 0;b0 9 0;b0 9 3;p0 1 9 1 1;p0 2 9 0 1;p2 1 9 2 3;");
        due("end 1 of plank 1", y.odds(1, 1, 1, 1), 2);
        due("end 0 of plank 2: 18 at most behind two, below 20", y.odds(2, 0, 2, 1), 1);
        due("end 1 of plank 2", y.odds(2, 1, 6, 0), 46655);
        due("all but six of 6", y.odds(2, 1, 6, 1), 46656);
        x.gale(3);
        due("worn by 9: none", x.odds(0, 0, 1, 0), 0);
        x.gale(1);
        due("out", x.odds(0, 0, 1, 0), STATE);
        due("bad ahead of out", x.odds(0, 0, 7, 0), BAD);
        due("n -1", x.odds(0, 1, -1, 0), BAD);
        due("what 2", x.odds(0, 1, 1, 2), BAD);
        due("what -1", x.odds(0, 1, 1, -1), BAD);
        due("end 2", x.odds(0, 2, 1, 0), BAD);
        due("plank 2", x.odds(2, 0, 1, 0), BAD);
        due("plank -1", x.odds(-1, 0, 1, 0), BAD);
    }

    private static void ordersAndBarred() {
        TreePlanks x = Check.planted(SMALL);
        due("how many", x.orders(-1), 4);
        due("first", x.orders(0), 0);
        due("third", x.orders(2), 2);
        due("not so many", x.orders(3), -5);
        due("not so many by far", x.orders(Integer.MAX_VALUE), -5);
        due("i -2", x.orders(-2), BAD);
        due("none barred", x.barred(), 0);
        // PLANK 2 is the only one at BOUGH 0: 2, then 1, then 0
        TreePlanks y = Check.planted("b0 9 0;b0 9 0;b0 9 0;b0 9 0;p2 3 9 1 1;p1 2 9 1 1;p0 1 9 1 1;");
        due("one order", y.orders(-1), 1);
        due("2", y.orders(0), 2);
        due("1", y.orders(1), 1);
        due("0", y.orders(2), 0);
        // PLANK 0 is never reached
        TreePlanks z = Check.planted("b0 9 0;b0 9 0;b0 9 0;b0 9 0;p2 3 9 1 1;p1 0 9 1 1;");
        due("no order", z.orders(-1), 0);
        due("no first", z.orders(0), NONE);
        due("no second", z.orders(1), NONE);
        due("barred", z.barred(), 1);
        // an END that is OUT bars nothing
        y.gale(9);
        due("still one", y.orders(-1), 1);
        TreePlanks six = Check.planted("b0 9 0;b0 9 0;" + "p0 1 9 1 1;".repeat(6));
        due("all orders of six", six.orders(-1), 720);
    }

    private static void hoists() {
        TreePlanks x = Check.planted("b11 20 0;b11 6 0;p0 1 9 1 1;c3 0;c4 0;c7 0;c4 0;");
        due("2 and 2: child 1", x.hoist(0, 2), 2);
        due("1 and 2: child 0", x.hoist(0, 1), 1);
        due("5 and 2: child 2", x.hoist(0, 5), 4);
        due("6 and 2: two, the least bits (4 and 4 are 8, 3 and 7 are 10)", x.hoist(0, 6), 5);
        due("9 and 2: 11, and 20 just borne", x.hoist(0, 9), 6);
        due("10 and 2: 22 too much", x.hoist(0, 10), NONE);
        x.stands(1, 0);
        due("with what it bears", x.hoist(0, 9), NONE);
        due("a weak one: 1 and 3 and 2", x.hoist(1, 1), 1);
        due("weak", x.hoist(1, 2), NONE);
        due("w 0", x.hoist(0, 0), BAD);
        due("w 61", x.hoist(0, 61), BAD);
        due("w 60", x.hoist(0, 60), NONE);
        due("bough 2", x.hoist(2, 1), BAD);
        due("bough -1", x.hoist(-1, 1), BAD);
        TreePlanks y = Check.planted("b20 60 0;c5 0;c6 0;c1 0;c1 0;c1 0;");
        due("a 4th of 20 is 5", y.hoist(0, 1), 2);
        due("all five of them", y.hoist(0, 9), 31);
    }

    private static void rotten() {
        TreePlanks x = Check.planted("b0 9 0;b0 9 0;p0 1 5 1 1;p0 1 40 1 1;p0 1 1 1 1;p0 1 9 1 1;");
        due("all may be", x.mayBe(), 15);
        due("test plank", x.test(4, 1, 0), BAD);
        due("test plank -1", x.test(-1, 1, 0), BAD);
        due("load 0", x.test(0, 0, 0), BAD);
        due("load 61", x.test(0, 61, 0), BAD);
        due("broke 2", x.test(0, 1, 2), BAD);
        due("broke -1", x.test(0, 1, -1), BAD);
        // any PLANK splits one from three, the first by a LOAD above 2
        due("ask plank", x.ask(0), 0);
        due("ask load", x.ask(1), 3);
        due("half of 5, cut, bears 2", x.test(0, 2, 0), 1);
        due("tells nothing", x.mayBe(), 15);
        due("3 borne", x.test(0, 3, 0), 2);
        due("so not 0", x.mayBe(), 14);
        due("ask next", x.ask(0) * 100 + x.ask(1), 121);
        due("half of 1 is 0", x.test(2, 1, 0), 3);
        due("so not 2", x.mayBe(), 10);
        due("20 borne", x.test(1, 20, 0), 4);
        due("9 broke under 5", x.test(3, 5, 1), 5);
        due("just 3", x.mayBe(), 8);
        due("ask of one: the first", x.ask(0) * 100 + x.ask(1), 1);
        due("1 broke under 1", x.test(2, 1, 1), 6);
        due("none may be", x.mayBe(), 0);
        due("ask of none: the first", x.ask(0) * 100 + x.ask(1), 1);
        due("a seventh", x.test(0, 1, 0), FULL);
        due("a seventh, wrong", x.test(0, 0, 0), BAD);
        due("tests", x.count(3), 6);
        due("forget", x.forget(), 6);
        due("forget again", x.forget(), 0);
        due("all may be again", x.mayBe(), 15);
        due("a sound one breaks above what it holds", x.test(1, 41, 1), 1);
        due("all may be still", x.mayBe(), 15);
        due("load 60", x.test(1, 60, 0), 2);
        due("which can't be", x.mayBe(), 0);
        due("ask 2", x.ask(2), BAD);
        due("ask -1", x.ask(-1), BAD);
        TreePlanks one = Check.planted("b0 9 0;b0 9 0;p0 1 7 1 1;");
        due("ask of the only plank", one.ask(0) * 100 + one.ask(1), 1);
    }

    private static void rated(TreePlanks x, int kind, int c, int want, long bodies) {
        long ahead = x.trace();
        due("rate " + kind + " of " + c, x.rate(kind, c), want);
        due("trace of kind " + kind, x.trace() - ahead, bodies);
    }

    private static void rates() {
        TreePlanks x = Check.planted(SMALL);
        rated(x, 0, 1, 4, 1);
        rated(x, 1, 1, 4, 11);
        rated(x, 2, 0, -2, 101);
        rated(x, 3, 1, 8, 1011);
        rated(x, 4, 2, 8, 10101);
        rated(x, 5, 1, 4, 100001);
        x.join(0, 0, 1);
        x.stands(1, 1);
        x.stands(2, 2);
        x.gale(7);
        rated(x, 1, 1, 13, 11);
        rated(x, 3, 2, 30, 1011);
        rated(x, 5, 1, 8, 100001);
        rated(x, 6, 0, NO, 0);
        rated(x, -1, 0, NO, 0);
        rated(x, 0, 3, NO, 0);
        rated(x, 0, -1, NO, 0);
    }

    private static void images() {
        TreePlanks x = Check.planted(SMALL);
        due("none kept", x.back(1), STATE);
        x.stands(0, 1);
        x.gale(7);
        x.join(1, 1, 0);
        due("keep", x.keep(1), 1);
        x.stands(0, NONE);
        x.join(0, 0, 2);
        x.gale(2);
        x.gale(2);
        x.test(0, 1, 0);
        due("keep the other", x.keep(0), 3);
        due("back", x.back(1), 1);
        due("stands", x.child(0, 2), 1);
        due("kind", x.end(0, 0, 0), 1);
        due("kind 1 1", x.end(1, 1, 0), 0);
        due("wear", x.end(0, 0, 1), 14);
        due("out", x.end(0, 0, 2), 1);
        due("tests stay", x.count(3), 1);
        due("nothing to undo", x.undo(), STATE);
        due("the other", x.back(0), 3);
        due("its child", x.child(0, 2), NONE);
        due("its kind", x.end(0, 0, 0), 2);
        due("once more", x.back(1), 1);
        due("image 2", x.keep(2), BAD);
        due("image -1", x.keep(-1), BAD);
        due("back 2", x.back(2), BAD);
        due("back -1", x.back(-1), BAD);
        x.spring();
        due("keep leaves what may be undone", x.keep(0), 1);
        due("undo", x.undo(), 0);
    }

    private static void counts() {
        TreePlanks x = Check.planted("b0 9 0;b0 9 3;p0 1 9 1 2;c1 0;c1 0;c1 0;");
        due("boughs", x.count(0), 2);
        due("planks", x.count(1), 1);
        due("children", x.count(2), 3);
        x.test(0, 1, 0);
        due("tests", x.count(3), 1);
        x.gale(4);
        due("outs", x.count(4), 1);
        x.type('b');
        due("letters", x.count(5), 1);
        due("what 6", x.count(6), BAD);
        due("what -1", x.count(-1), BAD);
    }
}
