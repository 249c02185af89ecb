import java.util.function.ToLongFunction;

/** What holds for every call: what is refused, in which order, and that nothing changes then; and the 512 calls. */
public final class RefusedTest {
    private static final int BAD = TreePlanks.BAD, STATE = TreePlanks.STATE, FULL = TreePlanks.FULL;
    private static final int NONE = TreePlanks.NONE, NO = TreePlanks.NO;
    private static final Check CHECK = new Check();
    private static final Sentences USE = Sentences.ofUse(CHECK);
    private static final Sentences TERMS = Sentences.ofRefusals(CHECK);

    public static void main(String[] args) {
        goodFor512Calls();
        USE.finish();
        nothingChanges();
        numberNotAsTold();
        badAheadOfState();
        badAheadOfFull();
        whatNoneIs();
        TERMS.finish();
        CHECK.finish();
    }

    /** Something of all there is: LOAD, WEAR, one OUT, two to be UNDONE, both IMAGES, a TEST, letters, THE TRACE. */
    private static TreePlanks lived() {
        TreePlanks x = Check.planted("b9 9 0;b9 9 3;p0 1 9 1 0;c3 5;");
        x.gale(1);
        x.keep(0);
        x.stands(0, 0);
        x.gale(3);
        x.keep(1);
        x.back(1);
        x.join(0, 1, 2);
        x.gale(1);
        x.test(0, 5, 0);
        x.rate(3, 0);
        return Check.typed(x, "c1 1;");
    }

    /** All that can be found out about an object, by calls that change it. */
    private static String found(TreePlanks x) {
        StringBuilder all = new StringBuilder(Check.seen(x));
        for (int i = 0; i < 3; i++) {
            all.append('|').append(x.undo()).append(' ').append(Check.seen(x));
        }
        for (int image = 0; image <= 1; image++) {
            all.append('|').append(x.back(image)).append(' ').append(Check.seen(x));
        }
        return all.append('|').append(x.tree()).append(' ').append(Check.seen(x)).toString();
    }

    private static void unchanged(String what, long answer, ToLongFunction<TreePlanks> call) {
        TreePlanks x = lived();
        TERMS.due(what, call.applyAsLong(x), answer);
        TERMS.same(what + ", then", found(x), found(lived()));
    }

    private static void nothingChanges() {
        TERMS.says("Refused, and nothing changes");
        unchanged("type", BAD, x -> x.type(256));
        unchanged("bough", BAD, x -> x.bough(2, 0));
        unchanged("plank", BAD, x -> x.plank(1, 0));
        unchanged("end", BAD, x -> x.end(0, 2, 0));
        unchanged("child", BAD, x -> x.child(1, 0));
        unchanged("now", BAD, x -> x.now(6));
        unchanged("stands, no child", BAD, x -> x.stands(1, NONE));
        unchanged("stands, no PLANK", BAD, x -> x.stands(0, 1));
        unchanged("gale of 0", BAD, x -> x.gale(0));
        unchanged("gale of 10", BAD, x -> x.gale(10));
        unchanged("join, no PLANK", BAD, x -> x.join(1, 0, 0));
        unchanged("join, no END", BAD, x -> x.join(0, 2, 0));
        unchanged("join, no kind", BAD, x -> x.join(0, 0, 4));
        unchanged("most", BAD, x -> x.most(1));
        unchanged("richest", BAD, x -> x.richest(1));
        unchanged("firstOut", BAD, x -> x.firstOut(10, 0));
        unchanged("holdsFor", BAD, x -> x.holdsFor(10));
        unchanged("bolts", BAD, x -> x.bolts(1, 31, 0));
        unchanged("odds", BAD, x -> x.odds(0, 0, 7, 0));
        unchanged("odds of one that is OUT", STATE, x -> x.odds(0, 0, 1, 0));
        unchanged("orders", BAD, x -> x.orders(-2));
        unchanged("hoist", BAD, x -> x.hoist(0, 61));
        unchanged("test, no PLANK", BAD, x -> x.test(1, 1, 0));
        unchanged("test, no LOAD", BAD, x -> x.test(0, 61, 0));
        unchanged("test, broke 2", BAD, x -> x.test(0, 1, 2));
        unchanged("ask", BAD, x -> x.ask(2));
        unchanged("rate, no KIND", NO, x -> x.rate(6, 0));
        unchanged("rate, no child", NO, x -> x.rate(5, 1));
        unchanged("keep", BAD, x -> x.keep(2));
        unchanged("back", BAD, x -> x.back(2));
        unchanged("count", BAD, x -> x.count(6));
        undoOfNone();
        backToNone();
        letterTooMany();
        testTooMany();
    }

    private static void undoOfNone() {
        TreePlanks x = lived();
        x.undo();
        x.undo();
        String seen = Check.seen(x);
        TERMS.due("undo of none", x.undo(), STATE);
        TERMS.same("undo of none, then", Check.seen(x), seen);
    }

    private static void backToNone() {
        TreePlanks x = Check.planted("b9 9 0;b9 9 3;p0 1 9 1 0;c3 5;");
        x.keep(0);
        x.stands(0, 0);
        String seen = Check.seen(x);
        TERMS.due("back to none", x.back(1), STATE);
        TERMS.same("back to none, then", Check.seen(x), seen);
        TERMS.due("what may be UNDONE stays", x.undo(), 0);
        TERMS.due("the other IMAGE stays", x.back(0), 0);
    }

    private static void letterTooMany() {
        TreePlanks x = Check.typed(lived(), " ".repeat(195));
        String seen = Check.seen(x);
        TERMS.due("a letter too many", x.type('?'), FULL);
        TERMS.same("a letter too many, then", Check.seen(x), seen);
        TERMS.due("none took its place", x.tree(), 1);
    }

    private static void testTooMany() {
        TreePlanks x = lived();
        for (int i = 1; i < 6; i++) {
            x.test(0, 1, 0);
        }
        String seen = Check.seen(x);
        TERMS.due("a TEST too many", x.test(0, 5, 1), FULL);
        TERMS.same("a TEST too many, then", Check.seen(x), seen);
    }

    private static void numberNotAsTold() {
        TERMS.says("the first of these: BAD (a number is not as told, or there is no such thing)");
        TreePlanks x = Check.planted("b9 9 0;b9 9 3;c3 5;");
        TERMS.due("a BOUGH that may be, but was not told", x.bough(2, 0), BAD);
        TERMS.due("a PLANK that may be, but was not told", x.plank(0, 0), BAD);
        TERMS.due("its END", x.end(0, 0, 0), BAD);
        TERMS.due("a child that may be, but was not told", x.child(1, 0), BAD);
        TERMS.due("STATE", x.undo(), STATE);
        TERMS.due("STATE of an IMAGE that there is", x.back(0), STATE);
        TERMS.due("BAD of one that there is not", x.back(2), BAD);
        TERMS.due("a GALE that may blow", x.gale(1), 0);
        Check.typed(x, "b9 9 0;").tree();
        TERMS.due("a BOUGH of an earlier tree", x.bough(1, 0), BAD);
        TERMS.due("a child of an earlier tree", x.child(0, 0), BAD);
    }

    private static void badAheadOfState() {
        TERMS.says("BAD (a number is not as told, or there is no such thing), STATE (as told)");
        TreePlanks x = Check.planted("b9 9 0;b9 9 3;p0 1 9 1 0;c3 5;");
        x.gale(9);
        TERMS.due("OUT", x.odds(0, 0, 1, 0), STATE);
        TERMS.due("OUT, n is not as told", x.odds(0, 0, 7, 0), BAD);
        TERMS.due("OUT, what is not as told", x.odds(0, 0, 1, 2), BAD);
        TERMS.due("OUT, the END is not as told", x.odds(0, 2, 1, 0), BAD);
        TERMS.due("no IMAGE", x.back(1), STATE);
        TERMS.due("no such IMAGE", x.back(-1), BAD);
    }

    private static void badAheadOfFull() {
        TERMS.says("STATE (as told), FULL.");
        TreePlanks x = Check.planted("b9 9 0;b9 9 3;p0 1 9 1 0;c3 5;");
        for (int i = 0; i < 6; i++) {
            x.test(0, 1, 0);
        }
        TERMS.due("a seventh TEST", x.test(0, 1, 0), FULL);
        TERMS.due("no PLANK", x.test(1, 1, 0), BAD);
        TERMS.due("no LOAD", x.test(0, 61, 0), BAD);
        TERMS.due("neither bore nor broke", x.test(0, 1, 2), BAD);
        Check.typed(x, " ".repeat(200));
        TERMS.due("a 201st letter", x.type(255), FULL);
        TERMS.due("no letter", x.type(256), BAD);
    }

    private static void whatNoneIs() {
        TERMS.says("The constants: `NO = -1000000`: What none is, where a number may be below 0.");
        TERMS.due("NO", NO, -1000000);
        TERMS.due("BAD", BAD, -1);
        TERMS.due("STATE", STATE, -2);
        TERMS.due("FULL", FULL, -3);
        TERMS.due("NONE", NONE, -9);
        TreePlanks x = Check.planted("c1 9;c1 2;");
        TERMS.due("a rate below 0", x.rate(2, 0), -8);
        TERMS.due("a rate like BAD", x.rate(2, 1), -1);
        TERMS.due("none", x.rate(2, 2), NO);
    }

    private static void goodFor512Calls() {
        USE.says("An object is used for at most 512 calls after it has been made; what later calls answer is free.");
        TreePlanks x = new TreePlanks();
        String text = "b9 9 0;b9 9 1;p0 1 9 0 3;c3 5;";
        Check.typed(x, text).tree();
        x.keep(0);
        for (int call = text.length() + 3; call <= 508; call++) {
            x.gale(2);
        }
        USE.due("509th call: GALES", x.now(4), 508 - text.length() - 2);
        USE.due("510th: ten are known", x.undo(), 9);
        USE.due("511th: an IMAGE", x.back(0), 0);
        USE.due("512th: GALES of it", x.now(4), 0);
    }
}
