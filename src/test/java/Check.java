/** What the project's tests share: it counts and prints answers that are not the ones due. */
final class Check {
    private int wrong = 0;
    private int asked = 0;

    void due(String what, long got, long want) {
        asked++;
        if (got != want) {
            wrong++;
            System.out.println(what + " answered " + got + ", due is " + want);
        }
    }

    void holds(String what, boolean right) {
        asked++;
        if (!right) {
            wrong++;
            System.out.println(what);
        }
    }

    void finish() {
        System.out.println(asked + " answers, " + wrong + " not as due");
        if (wrong != 0) {
            System.exit(1);
        }
    }

    static TreePlanks typed(TreePlanks x, String text) {
        for (int i = 0; i < text.length(); i++) {
            x.type(text.charAt(i));
        }
        return x;
    }

    static TreePlanks planted(String text) {
        TreePlanks x = typed(new TreePlanks(), text);
        int items = x.tree();
        if (items < 0) {
            throw new IllegalStateException("the test's own text has a fault: " + text + " " + items);
        }
        return x;
    }
}
