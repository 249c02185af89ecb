/** What the project's tests share: it counts and prints answers that are not the ones due. */
final class Check {
    /** Numbers that no call takes anywhere; doubled, or cut to 16 or 8 bits, some of them would be small ones. */
    private static final int[] WILD = {Integer.MIN_VALUE, Integer.MIN_VALUE + 1, -0x40000000, -65536, -1000000, -256,
        -100, 256, 1000, 65536, 1000000, 0x40000000, Integer.MAX_VALUE - 1, Integer.MAX_VALUE};

    private int wrong = 0;
    private int asked = 0;

    void due(String what, long got, long want) {
        asked++;
        if (got != want) {
            wrong++;
            System.out.println(what + " answered " + got + ", due is " + want);
        }
    }

    void holds(String what, boolean right) {
        asked++;
        if (!right) {
            wrong++;
            System.out.println(what);
        }
    }

    void finish() {
        System.out.println(asked + " answers, " + wrong + " not as due");
        if (wrong != 0) {
            System.exit(1);
        }
    }

    static TreePlanks typed(TreePlanks x, String text) {
        for (int i = 0; i < text.length(); i++) {
            x.type(text.charAt(i));
        }
        return x;
    }

    static TreePlanks planted(String text) {
        TreePlanks x = typed(new TreePlanks(), text);
        int items = x.tree();
        if (items < 0) {
            throw new IllegalStateException("the test's own text has a fault: " + text + " " + items);
        }
        return x;
    }

    /** The numbers given, and those that are wrong for every call. */
    static int[] wrong(int... near) {
        int[] all = new int[near.length + WILD.length];
        System.arraycopy(near, 0, all, 0, near.length);
        System.arraycopy(WILD, 0, all, near.length, WILD.length);
        return all;
    }

    /** All that the calls which tell about NOW show; what was told by a text is in it, too. */
    static String seen(TreePlanks x) {
        StringBuilder all = new StringBuilder();
        for (int what = 0; what <= 5; what++) {
            all.append(x.count(what)).append(' ').append(x.now(what)).append(' ');
        }
        for (int b = 0; b < x.count(0); b++) {
            for (int what = 0; what <= 3; what++) {
                all.append(x.bough(b, what)).append(' ');
            }
        }
        for (int p = 0; p < x.count(1); p++) {
            for (int what = 0; what <= 3; what++) {
                all.append(x.plank(p, what)).append(' ');
            }
            for (int what = 0; what <= 2; what++) {
                all.append(x.end(p, 0, what)).append(' ').append(x.end(p, 1, what)).append(' ');
            }
        }
        for (int c = 0; c < x.count(2); c++) {
            for (int what = 0; what <= 2; what++) {
                all.append(x.child(c, what)).append(' ');
            }
        }
        return all.append(x.mayBe()).append(' ').append(x.trace()).toString();
    }
}
