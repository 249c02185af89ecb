/** Planks in a tree; what each call answers is told in the project's document, promise by promise. */
public final class TreePlanks {
    public static final int BAD = -1, STATE = -2, FULL = -3, NONE = -9;
    public static final int NO = -1000000;

    private static final int MAX_BOUGHS = 8, MAX_PLANKS = 6, MAX_ENDS = 12, MAX_CHILDREN = 5;
    private static final int MAX_LETTERS = 200, MAX_GALES = 999, MAX_UNDO = 10, MAX_TESTS = 6, IMAGES = 2;
    private static final int MAX_FORCE = 9, MAX_AHEAD = 60, MAX_BOLT_GALES = 30;
    private static final int MAX_CHANCES = 6, CHANCE_FORCES = 6;
    private static final int MAX_LOAD = 60, MAX_TRIAL = 40, MAX_HOIST = 60;

    private static final int LOOSE = 0, NAILED = 1, ROPED = 2, BOLTED = 3;
    private static final int SLIPS_AT = 7, BARK = 2;
    private static final int NAILED_GIVES_AT = 12, ROPED_GIVES_AT = 20, BOLTED_GIVES_AT = 36;
    private static final int NEVER = 1000000;

    /** What most, richest and orders say where NONE has a meaning of its own. */
    private static final int MINUS_FIVE = -5;

    private final Script script = new Script();
    private final Scene scene = new Scene();
    private final Burden burden = new Burden();
    private final Past past = new Past();
    private final Album album = new Album();
    private final Rot rot = new Rot();
    private final Planner planner = new Planner();
    private final Forecast forecast = new Forecast();
    private final Chance chance = new Chance();
    private final Laying laying = new Laying();
    /** A faulty text must change nothing, so it is read into the spare tree, and the two change places. */
    private Tree grown = new Tree();
    private Tree spare = new Tree();
    private long bodies = 0;

    public TreePlanks() {
    }

    // ---- the tree

    public int type(int letter) {
        if (!within(letter, 0, 255)) {
            return BAD;
        }
        return script.append(letter) ? script.length : FULL;
    }

    public int clear() {
        int had = script.length;
        script.length = 0;
        return had;
    }

    public int tree() {
        int items = script.readInto(spare);
        if (items < 0) {
            return items;
        }
        Tree old = grown;
        grown = spare;
        spare = old;
        script.length = 0;
        scene.begin(grown);
        past.lose();
        album.lose();
        rot.tests = 0;
        return items;
    }

    public int bough(int b, int what) {
        if (!within(b, 0, grown.boughs - 1)) {
            return BAD;
        }
        switch (what) {
            case 0:
                return grown.height[b];
            case 1:
                return grown.strong[b];
            case 2:
                return grown.sway[b];
            case 3:
                burden.weigh(grown, scene);
                return burden.bears[b];
            default:
                return BAD;
        }
    }

    public int plank(int p, int what) {
        if (!isPlank(p)) {
            return BAD;
        }
        switch (what) {
            case 0:
                return grown.at[2 * p];
            case 1:
                return grown.at[2 * p + 1];
            case 2:
                return grown.holds[p];
            case 3:
                burden.weigh(grown, scene);
                return burden.load[p];
            default:
                return BAD;
        }
    }

    public int end(int p, int e, int what) {
        if (!isEnd(p, e)) {
            return BAD;
        }
        int n = 2 * p + e;
        switch (what) {
            case 0:
                return scene.kindOf(n);
            case 1:
                return scene.wearOf(n);
            case 2:
                return scene.isOut(n) ? 1 : 0;
            default:
                return BAD;
        }
    }

    public int child(int c, int what) {
        if (!isChild(c)) {
            return BAD;
        }
        switch (what) {
            case 0:
                return grown.weight[c];
            case 1:
                return grown.paid[c];
            case 2:
                return scene.plankUnder(c);
            default:
                return BAD;
        }
    }

    public int now(int what) {
        if (!within(what, 0, 5)) {
            return BAD;
        }
        burden.weigh(grown, scene);
        switch (what) {
            case 0:
                return burden.allHold(grown, scene) ? 1 : 0;
            case 1:
                return burden.firstTooLaden(grown);
            case 2:
                return burden.firstTooBent(grown);
            case 3:
                return burden.firstUnheld(grown, scene);
            case 4:
                return scene.gales();
            default:
                return past.known;
        }
    }

    // ---- what is done

    public int stands(int c, int p) {
        if (!isChild(c) || (p != NONE && !isPlank(p))) {
            return BAD;
        }
        past.remember(scene);
        int stood = scene.plankUnder(c);
        scene.put(c, p);
        return stood;
    }

    public int gale(int g) {
        if (!isForce(g)) {
            return BAD;
        }
        if (scene.gales() >= MAX_GALES) {
            return STATE;
        }
        past.remember(scene);
        scene.blow(grown, g);
        return scene.outs(grown);
    }

    public int join(int p, int e, int kind) {
        if (!isEnd(p, e) || !within(kind, LOOSE, BOLTED)) {
            return BAD;
        }
        past.remember(scene);
        int was = scene.kindOf(2 * p + e);
        scene.doAnew(2 * p + e, kind);
        return was;
    }

    public int spring() {
        past.remember(scene);
        return scene.growBark(grown);
    }

    public int undo() {
        return past.takeBack(scene) ? past.known : STATE;
    }

    // ---- what it bears

    public int most(int c) {
        if (c != NONE && !isChild(c)) {
            return BAD;
        }
        planner.seekMost(grown, scene);
        return c == NONE ? planner.howMany(grown) : planner.placeOf(c);
    }

    public int richest(int c) {
        if (c != NONE && !isChild(c)) {
            return BAD;
        }
        planner.seekRichest(grown, scene);
        return c == NONE ? planner.howMuch(grown) : planner.placeOf(c);
    }

    // ---- gales to come

    public int firstOut(int g, int what) {
        if (!isForce(g) || !within(what, 0, 1)) {
            return BAD;
        }
        return what == 0 ? forecast.galesToFirstOut(grown, scene, g) : forecast.endFirstOut(grown, scene, g);
    }

    public int holdsFor(int g) {
        if (!isForce(g)) {
            return BAD;
        }
        burden.weigh(grown, scene);
        return forecast.galesToFall(grown, scene, burden, g);
    }

    public int bolts(int g, int n, int what) {
        if (!isForce(g) || !within(n, 1, MAX_BOLT_GALES) || !within(what, 0, 1)) {
            return BAD;
        }
        int lost = forecast.lostBehind(grown, scene, g, n);
        return what == 0 ? lost : lost & ~forecast.lostIfBolted(grown, scene, g, n);
    }

    public long odds(int p, int e, int n, int what) {
        if (!isEnd(p, e) || !within(n, 0, MAX_CHANCES) || !within(what, 0, 1)) {
            return BAD;
        }
        int end = 2 * p + e;
        if (scene.isOut(end)) {
            return STATE;
        }
        long all = Chance.allWays(n);
        long good = chance.waysToStay(scene.kindOf(end), scene.wearOf(end), grown.swayAcross(p), n);
        long shared = Chance.greatestShared(all, good);
        return (what == 0 ? good : all) / (shared > 0 ? shared : 1);
    }

    // ---- orders, doors, rot

    public int orders(int i) {
        if (i < -1) {
            return BAD;
        }
        if (i == -1) {
            return laying.howMany(grown);
        }
        if (laying.neverLaid(grown) != 0) {
            return NONE;
        }
        return i < grown.planks ? laying.ofFirst(grown, i) : MINUS_FIVE;
    }

    public int barred() {
        return laying.neverLaid(grown);
    }

    public int hoist(int b, int w) {
        if (!within(b, 0, grown.boughs - 1) || !within(w, 1, MAX_HOIST)) {
            return BAD;
        }
        burden.weigh(grown, scene);
        int least = w + grown.height[b] / 4;
        int greatest = grown.strong[b] - burden.bears[b] - w;
        return fewestPulling(least, greatest);
    }

    public int test(int p, int load, int broke) {
        if (!isPlank(p) || !within(load, 1, MAX_LOAD) || !within(broke, 0, 1)) {
            return BAD;
        }
        return rot.note(p, load, broke) ? rot.tests : FULL;
    }

    public int forget() {
        int were = rot.tests;
        rot.tests = 0;
        return were;
    }

    public int mayBe() {
        return rot.suspects(grown);
    }

    public int ask(int what) {
        if (!within(what, 0, 1)) {
            return BAD;
        }
        if (grown.planks == 0) {
            return NONE;
        }
        rot.seekTrial(grown);
        return what == 0 ? rot.trialPlank : rot.trialLoad;
    }

    // ---- kinds, images

    public int rate(int kind, int c) {
        if (!isChild(c)) {
            return NO;
        }
        switch (kind) {
            case 0:
                return rateChild(c);
            case 1:
                return rateClimber(c);
            case 2:
                return rateGuest(c);
            case 3:
                return rateCaptain(c);
            case 4:
                return rateNeighbour(c);
            case 5:
                return rateSister(c);
            default:
                return NO;
        }
    }

    public int keep(int image) {
        if (!within(image, 0, IMAGES - 1)) {
            return BAD;
        }
        album.paint(image, scene);
        return scene.gales();
    }

    public int back(int image) {
        if (!within(image, 0, IMAGES - 1)) {
            return BAD;
        }
        if (!album.show(image, scene)) {
            return STATE;
        }
        past.lose();
        return scene.gales();
    }

    public int count(int what) {
        switch (what) {
            case 0:
                return grown.boughs;
            case 1:
                return grown.planks;
            case 2:
                return grown.children;
            case 3:
                return rot.tests;
            case 4:
                return scene.outs(grown);
            case 5:
                return script.length;
            default:
                return BAD;
        }
    }

    public long trace() {
        return bodies;
    }

    // ---- helpers

    private static boolean within(int n, int least, int greatest) {
        return n >= least && n <= greatest;
    }

    private static boolean isForce(int g) {
        return within(g, 1, MAX_FORCE);
    }

    private boolean isPlank(int p) {
        return within(p, 0, grown.planks - 1);
    }

    private boolean isEnd(int p, int e) {
        return isPlank(p) && within(e, 0, 1);
    }

    private boolean isChild(int c) {
        return within(c, 0, grown.children - 1);
    }

    /** Sets are tried by their bits upwards, so that of several as small the first found has the least bits. */
    private int fewestPulling(int least, int greatest) {
        int best = NONE;
        int fewest = MAX_CHILDREN + 1;
        for (int set = 1; set < 1 << grown.children; set++) {
            int pull = grown.weightOf(set);
            if (within(pull, least, greatest) && Integer.bitCount(set) < fewest) {
                fewest = Integer.bitCount(set);
                best = set;
            }
        }
        return best;
    }

    private int rateChild(int c) {
        bodies += 1;
        return grown.weight[c];
    }

    private int rateClimber(int c) {
        bodies += 10;
        int p = scene.plankUnder(c);
        int height = isPlank(p) ? grown.height[grown.at[2 * p]] : 0;
        return rateChild(c) + height;
    }

    private int rateGuest(int c) {
        bodies += 100;
        return rateChild(c) - grown.paid[c];
    }

    private int rateCaptain(int c) {
        bodies += 1000;
        return 2 * rateClimber(c);
    }

    private int rateNeighbour(int c) {
        bodies += 10000;
        return rateGuest(c) + c;
    }

    private int rateSister(int c) {
        bodies += 100000;
        return rateChild(c) + scene.outs(grown);
    }

    /** How much WEAR a GALE brings to an END of a kind, between BOUGHS whose SWAY differs by so much. */
    private static int growth(int kind, int sway, int g) {
        switch (kind) {
            case NAILED:
                return sway * g;
            case ROPED:
                return sway * g / 2;
            case BOLTED:
                return sway * g / 3;
            default:
                return 0;
        }
    }

    private static int givesAt(int kind) {
        switch (kind) {
            case NAILED:
                return NAILED_GIVES_AT;
            case ROPED:
                return ROPED_GIVES_AT;
            case BOLTED:
                return BOLTED_GIVES_AT;
            default:
                return NEVER;
        }
    }

    /** What a text tells; ENDS are numbered 2 times the PLANK and the END, as the document's bits are. */
    private static final class Tree {
        int boughs = 0, planks = 0, children = 0;
        final int[] height = new int[MAX_BOUGHS];
        final int[] strong = new int[MAX_BOUGHS];
        final int[] sway = new int[MAX_BOUGHS];
        final int[] holds = new int[MAX_PLANKS];
        final int[] at = new int[MAX_ENDS];
        final int[] laid = new int[MAX_ENDS];
        final int[] weight = new int[MAX_CHILDREN];
        final int[] paid = new int[MAX_CHILDREN];

        void strip() {
            boughs = 0;
            planks = 0;
            children = 0;
        }

        boolean hasRoomFor(int mark) {
            switch (mark) {
                case 'b':
                    return boughs < MAX_BOUGHS;
                case 'p':
                    return planks < MAX_PLANKS;
                case 'c':
                    return children < MAX_CHILDREN;
                default:
                    return false;
            }
        }

        void take(int mark, int[] told) {
            if (!hasRoomFor(mark) || told.length < 5) {
                return;
            }
            if (mark == 'b') {
                height[boughs] = told[0];
                strong[boughs] = told[1];
                sway[boughs] = told[2];
                boughs++;
            } else if (mark == 'p') {
                at[2 * planks] = told[0];
                at[2 * planks + 1] = told[1];
                holds[planks] = told[2];
                laid[2 * planks] = told[3];
                laid[2 * planks + 1] = told[4];
                planks++;
            } else {
                weight[children] = told[0];
                paid[children] = told[1];
                children++;
            }
        }

        int ends() {
            return 2 * planks;
        }

        int swayAcross(int p) {
            return Math.abs(sway[at[2 * p]] - sway[at[2 * p + 1]]);
        }

        boolean farApart(int a, int b) {
            return Math.abs(height[a] - height[b]) > 2;
        }

        int weightOf(int set) {
            int sum = 0;
            for (int c = 0; c < children; c++) {
                if ((set >> c & 1) != 0) {
                    sum += weight[c];
                }
            }
            return sum;
        }

        /** The BOUGHS of a PLANK, as bits. */
        int boughsOf(int p) {
            return 1 << at[2 * p] | 1 << at[2 * p + 1];
        }
    }

    /** THE TEXT, and what reads it TOKEN by TOKEN. */
    private static final class Script {
        private static final int ENDED = 0, NUMBER = 1, WRONG = 2;
        /** What the NUMBERS of an ITEM may be, in their order; BOUGHS of a PLANK must be told ahead, too. */
        private static final int[] BOUGH_LEAST = {0, 1, 0};
        private static final int[] BOUGH_GREATEST = {20, 60, 3};
        private static final int[] PLANK_LEAST = {0, 0, 1, LOOSE, LOOSE};
        private static final int[] PLANK_GREATEST = {7, 7, 40, BOLTED, BOLTED};
        private static final int[] CHILD_LEAST = {1, 0};
        private static final int[] CHILD_GREATEST = {9, 9};

        final int[] letters = new int[MAX_LETTERS];
        int length = 0;
        private int next = 0;
        private int place = 0;
        private int token = ENDED;
        private int value = 0;
        private final int[] told = new int[PLANK_LEAST.length];

        boolean append(int letter) {
            if (length >= MAX_LETTERS) {
                return false;
            }
            letters[length] = letter;
            length++;
            return true;
        }

        /** How many ITEMS there are, or -10 less FAULT: the TOKEN read last is the one that can't stand there. */
        int readInto(Tree t) {
            t.strip();
            next = 0;
            step();
            int items = 0;
            while (token != ENDED && items < MAX_LETTERS) {
                if (!readItem(t)) {
                    return -10 - place;
                }
                items++;
                step();
            }
            return items;
        }

        private boolean readItem(Tree t) {
            int mark = token;
            if (!t.hasRoomFor(mark)) {
                return false;
            }
            for (int i = 0; i < numbersOf(mark); i++) {
                step();
                if (token != NUMBER || !mayStand(t, mark, i)) {
                    return false;
                }
                told[i] = value;
            }
            step();
            if (token != ';') {
                return false;
            }
            t.take(mark, told);
            return true;
        }

        private static int numbersOf(int mark) {
            switch (mark) {
                case 'b':
                    return BOUGH_LEAST.length;
                case 'p':
                    return PLANK_LEAST.length;
                case 'c':
                    return CHILD_LEAST.length;
                default:
                    return 0;
            }
        }

        /** Whether the NUMBER just read may be the i-th of an ITEM. */
        private boolean mayStand(Tree t, int mark, int i) {
            switch (mark) {
                case 'b':
                    return within(value, BOUGH_LEAST[i], BOUGH_GREATEST[i]);
                case 'p':
                    return within(value, PLANK_LEAST[i], PLANK_GREATEST[i]) && (i > 1 || mayBeUnder(t, i));
                case 'c':
                    return within(value, CHILD_LEAST[i], CHILD_GREATEST[i]);
                default:
                    return false;
            }
        }

        /** Whether the NUMBER just read may be the BOUGH of END e of a PLANK. */
        private boolean mayBeUnder(Tree t, int e) {
            if (value >= t.boughs) {
                return false;
            }
            return e == 0 || (value != told[0] && !t.farApart(told[0], value));
        }

        private void step() {
            while (next < length && letters[next] == ' ') {
                next++;
            }
            place = next;
            if (next >= length) {
                token = ENDED;
            } else if (isDigit(letters[next])) {
                stepOverNumber();
            } else {
                token = isMark(letters[next]) ? letters[next] : WRONG;
                next++;
            }
        }

        /** Of three digits and more a NUMBER is above 99 or has a 0 ahead: so its length alone makes it wrong. */
        private void stepOverNumber() {
            value = 0;
            while (next < length && isDigit(letters[next])) {
                value = value * 10 + letters[next] - '0';
                next++;
            }
            int digits = next - place;
            boolean right = digits == 1 || (digits == 2 && letters[place] != '0');
            token = right ? NUMBER : WRONG;
        }

        private static boolean isDigit(int letter) {
            return within(letter, '0', '9');
        }

        private static boolean isMark(int letter) {
            return letter == 'b' || letter == 'p' || letter == 'c' || letter == ';';
        }
    }

    /** NOW, or what it may become: one row of numbers, so that it is kept and taken back by copying that row. */
    private static final class Scene {
        static final int KIND = MAX_CHILDREN, WEAR = KIND + MAX_ENDS, OUT = WEAR + MAX_ENDS;
        static final int GALES = OUT + MAX_ENDS, CELLS = GALES + 1;

        final int[] cells = new int[CELLS];

        void begin(Tree t) {
            for (int c = 0; c < MAX_CHILDREN; c++) {
                cells[c] = NONE;
            }
            for (int e = 0; e < MAX_ENDS; e++) {
                doAnew(e, t.laid[e]);
            }
            cells[GALES] = 0;
        }

        void copyFrom(int[] row) {
            if (row.length >= CELLS) {
                System.arraycopy(row, 0, cells, 0, CELLS);
            }
        }

        void copyTo(int[] row) {
            if (row.length >= CELLS) {
                System.arraycopy(cells, 0, row, 0, CELLS);
            }
        }

        int plankUnder(int c) {
            return cells[c];
        }

        int kindOf(int e) {
            return cells[KIND + e];
        }

        int wearOf(int e) {
            return cells[WEAR + e];
        }

        boolean isOut(int e) {
            return cells[OUT + e] != 0;
        }

        int gales() {
            return cells[GALES];
        }

        void put(int c, int p) {
            cells[c] = p;
        }

        void doAnew(int e, int kind) {
            cells[KIND + e] = kind;
            cells[WEAR + e] = 0;
            cells[OUT + e] = 0;
        }

        void blow(Tree t, int g) {
            for (int e = 0; e < t.ends(); e++) {
                if (!isOut(e)) {
                    shake(e, t.swayAcross(e / 2), g);
                }
            }
            cells[GALES]++;
        }

        private void shake(int e, int sway, int g) {
            int kind = kindOf(e);
            cells[WEAR + e] += growth(kind, sway, g);
            boolean slips = kind == LOOSE && g >= SLIPS_AT;
            if (slips || wearOf(e) >= givesAt(kind)) {
                cells[OUT + e] = 1;
            }
        }

        int growBark(Tree t) {
            int eased = 0;
            for (int e = 0; e < t.ends(); e++) {
                if (kindOf(e) == NAILED && !isOut(e) && wearOf(e) > 0) {
                    cells[WEAR + e] = Math.max(0, wearOf(e) - BARK);
                    eased++;
                }
            }
            return eased;
        }

        int outs(Tree t) {
            return Integer.bitCount(outBits(t));
        }

        int outBits(Tree t) {
            int bits = 0;
            for (int e = 0; e < t.ends(); e++) {
                if (isOut(e)) {
                    bits |= 1 << e;
                }
            }
            return bits;
        }

        boolean hasBothEnds(int p) {
            return !isOut(2 * p) && !isOut(2 * p + 1);
        }
    }

    /** What stands on each PLANK, and what comes from there to each BOUGH. */
    private static final class Burden {
        final int[] load = new int[MAX_PLANKS];
        final int[] bears = new int[MAX_BOUGHS];

        void empty() {
            for (int p = 0; p < MAX_PLANKS; p++) {
                load[p] = 0;
            }
            for (int b = 0; b < MAX_BOUGHS; b++) {
                bears[b] = 0;
            }
        }

        void weigh(Tree t, Scene s) {
            empty();
            for (int c = 0; c < t.children; c++) {
                int p = s.plankUnder(c);
                if (within(p, 0, t.planks - 1)) {
                    add(t, p, t.weight[c]);
                }
            }
        }

        /** The halves are cut of the whole LOAD of a PLANK, so the old ones are taken off ahead of the new. */
        void add(Tree t, int p, int weight) {
            int a = t.at[2 * p];
            int b = t.at[2 * p + 1];
            bears[a] -= load[p] - load[p] / 2;
            bears[b] -= load[p] / 2;
            load[p] += weight;
            bears[a] += load[p] - load[p] / 2;
            bears[b] += load[p] / 2;
        }

        /** Whether a PLANK and its BOUGHS can bear what they have now. */
        boolean fits(Tree t, int p) {
            int a = t.at[2 * p];
            int b = t.at[2 * p + 1];
            return load[p] <= t.holds[p] && bears[a] <= t.strong[a] && bears[b] <= t.strong[b];
        }

        boolean allHold(Tree t, Scene s) {
            return firstTooLaden(t) == NONE && firstTooBent(t) == NONE && firstUnheld(t, s) == NONE;
        }

        int firstTooLaden(Tree t) {
            for (int p = 0; p < t.planks; p++) {
                if (load[p] > t.holds[p]) {
                    return p;
                }
            }
            return NONE;
        }

        int firstTooBent(Tree t) {
            for (int b = 0; b < t.boughs; b++) {
                if (bears[b] > t.strong[b]) {
                    return b;
                }
            }
            return NONE;
        }

        int firstUnheld(Tree t, Scene s) {
            for (int p = 0; p < t.planks; p++) {
                if (load[p] > 0 && !s.hasBothEnds(p)) {
                    return p;
                }
            }
            return NONE;
        }
    }

    /** What can be UNDONE: a ring of rows, in which a new one takes the place of the oldest. */
    private static final class Past {
        final int[][] rows = new int[MAX_UNDO][Scene.CELLS];
        int known = 0;
        private int next = 0;

        void remember(Scene s) {
            s.copyTo(rows[next]);
            next = next + 1 < MAX_UNDO ? next + 1 : 0;
            known = Math.min(known + 1, MAX_UNDO);
        }

        boolean takeBack(Scene s) {
            if (known == 0) {
                return false;
            }
            known--;
            next = next > 0 ? next - 1 : MAX_UNDO - 1;
            s.copyFrom(rows[next]);
            return true;
        }

        void lose() {
            known = 0;
            next = 0;
        }
    }

    private static final class Album {
        final int[][] rows = new int[IMAGES][Scene.CELLS];
        final boolean[] kept = new boolean[IMAGES];

        void paint(int image, Scene s) {
            s.copyTo(rows[image]);
            kept[image] = true;
        }

        boolean show(int image, Scene s) {
            if (!kept[image]) {
                return false;
            }
            s.copyFrom(rows[image]);
            return true;
        }

        void lose() {
            for (int i = 0; i < IMAGES; i++) {
                kept[i] = false;
            }
        }
    }

    /** Seeks the row of greatest worth; rows are tried in their order, so the first of the greatest is found. */
    private static final class Planner {
        /** More than there are CHILDREN: so PAID comes ahead of how few they are. */
        private static final int PAID_COUNTS = 10;

        private final Burden burden = new Burden();
        private final int[] worth = new int[MAX_CHILDREN];
        private final int[] hope = new int[MAX_CHILDREN + 1];
        private final int[] row = new int[MAX_CHILDREN];
        private final int[] best = new int[MAX_CHILDREN];
        private int bestSum = -1;

        void seekMost(Tree t, Scene s) {
            for (int c = 0; c < t.children; c++) {
                worth[c] = 1;
            }
            seek(t, s);
        }

        void seekRichest(Tree t, Scene s) {
            for (int c = 0; c < t.children; c++) {
                worth[c] = PAID_COUNTS * t.paid[c] - 1;
            }
            seek(t, s);
        }

        int placeOf(int c) {
            return best[c] == NONE ? MINUS_FIVE : best[c];
        }

        int howMany(Tree t) {
            int sum = 0;
            for (int c = 0; c < t.children; c++) {
                sum += best[c] == NONE ? 0 : 1;
            }
            return sum;
        }

        int howMuch(Tree t) {
            int sum = 0;
            for (int c = 0; c < t.children; c++) {
                sum += best[c] == NONE ? 0 : t.paid[c];
            }
            return sum;
        }

        private void seek(Tree t, Scene s) {
            hope[t.children] = 0;
            for (int c = t.children - 1; c >= 0; c--) {
                hope[c] = hope[c + 1] + Math.max(0, worth[c]);
            }
            burden.empty();
            bestSum = -1;
            placeFrom(t, s, 0, 0);
        }

        /** c is the depth too: it ends behind the last child. A row that can't become better is left. */
        private void placeFrom(Tree t, Scene s, int c, int sum) {
            if (c > t.children || sum + hope[c] <= bestSum) {
                return;
            }
            if (c == t.children) {
                bestSum = sum;
                System.arraycopy(row, 0, best, 0, MAX_CHILDREN);
                return;
            }
            for (int p = 0; p < t.planks; p++) {
                if (s.hasBothEnds(p)) {
                    burden.add(t, p, t.weight[c]);
                    if (burden.fits(t, p)) {
                        row[c] = p;
                        placeFrom(t, s, c + 1, sum + worth[c]);
                    }
                    burden.add(t, p, -t.weight[c]);
                }
            }
            row[c] = NONE;
            placeFrom(t, s, c + 1, sum);
        }
    }

    /** GALES to come: they blow on a copy. */
    private static final class Forecast {
        private final Scene later = new Scene();

        int galesToFirstOut(Tree t, Scene s, int g) {
            later.copyFrom(s.cells);
            int outNow = s.outBits(t);
            for (int n = 1; n <= MAX_AHEAD; n++) {
                later.blow(t, g);
                if (later.outBits(t) != outNow) {
                    return n;
                }
            }
            return NONE;
        }

        int endFirstOut(Tree t, Scene s, int g) {
            if (galesToFirstOut(t, s, g) == NONE) {
                return NONE;
            }
            return Integer.numberOfTrailingZeros(later.outBits(t) & ~s.outBits(t));
        }

        int galesToFall(Tree t, Scene s, Burden burden, int g) {
            later.copyFrom(s.cells);
            for (int n = 0; n <= MAX_AHEAD; n++) {
                if (!burden.allHold(t, later)) {
                    return n;
                }
                later.blow(t, g);
            }
            return NONE;
        }

        int lostBehind(Tree t, Scene s, int g, int n) {
            later.copyFrom(s.cells);
            return blowAndTell(t, g, n) & ~s.outBits(t);
        }

        /** No END wears another one, so all can be BOLTED at once where the document means one by one. */
        int lostIfBolted(Tree t, Scene s, int g, int n) {
            later.copyFrom(s.cells);
            for (int e = 0; e < t.ends(); e++) {
                later.doAnew(e, BOLTED);
            }
            return blowAndTell(t, g, n);
        }

        private int blowAndTell(Tree t, int g, int n) {
            for (int i = 0; i < n; i++) {
                later.blow(t, g);
            }
            return later.outBits(t);
        }
    }

    /** GALES by chance: in how many of all rows of forces an END stays. */
    private static final class Chance {
        /** An END that stays has less WEAR than this, whatever its kind. */
        private static final int MOST_WEAR = BOLTED_GIVES_AT;

        private final long[] ways = new long[MOST_WEAR];
        private final long[] moved = new long[MOST_WEAR];

        static long allWays(int n) {
            long all = 1;
            for (int i = 0; i < n; i++) {
                all *= CHANCE_FORCES;
            }
            return all;
        }

        /** By chance no GALE has the force by which a LOOSE END slips. */
        long waysToStay(int kind, int wear, int sway, int n) {
            if (kind == LOOSE) {
                return allWays(n);
            }
            int limit = Math.min(givesAt(kind), MOST_WEAR);
            for (int w = 0; w < MOST_WEAR; w++) {
                ways[w] = w == wear ? 1 : 0;
            }
            for (int i = 0; i < n; i++) {
                blowOnce(kind, sway, limit);
            }
            long sum = 0;
            for (int w = 0; w < limit; w++) {
                sum += ways[w];
            }
            return sum;
        }

        private void blowOnce(int kind, int sway, int limit) {
            for (int w = 0; w < MOST_WEAR; w++) {
                moved[w] = 0;
            }
            for (int g = 1; g <= CHANCE_FORCES; g++) {
                int more = growth(kind, sway, g);
                for (int w = 0; w + more < limit; w++) {
                    moved[w + more] += ways[w];
                }
            }
            System.arraycopy(moved, 0, ways, 0, MOST_WEAR);
        }

        /** Each second step halves the number at least: 128 steps are more than any two longs need. */
        static long greatestShared(long a, long b) {
            for (int i = 0; i < 128 && b != 0; i++) {
                long rest = a % b;
                a = b;
                b = rest;
            }
            return a;
        }
    }

    /** ORDERS in which PLANKS are laid. */
    private static final class Laying {
        private final int[] ways = new int[1 << MAX_PLANKS];

        /** ways[set]: in how many orders just that set can be laid; a greater set has greater bits. */
        int howMany(Tree t) {
            int sets = 1 << t.planks;
            for (int set = 0; set < sets; set++) {
                ways[set] = set == 0 ? 1 : 0;
            }
            for (int set = 0; set < sets; set++) {
                int reached = reachedBy(t, set);
                for (int p = 0; p < t.planks; p++) {
                    if (canFollow(t, set, reached, p)) {
                        ways[set | 1 << p] += ways[set];
                    }
                }
            }
            return ways[sets - 1];
        }

        /** What can be laid stays so, whatever is laid ahead: the least PLANK each time is the first order. */
        int ofFirst(Tree t, int i) {
            int set = 0;
            int latest = NONE;
            for (int k = 0; k <= i && k < t.planks; k++) {
                latest = leastNext(t, set);
                if (latest == NONE) {
                    return NONE;
                }
                set |= 1 << latest;
            }
            return latest;
        }

        int neverLaid(Tree t) {
            int set = 0;
            for (int k = 0; k < t.planks; k++) {
                int p = leastNext(t, set);
                if (p != NONE) {
                    set |= 1 << p;
                }
            }
            return (1 << t.planks) - 1 & ~set;
        }

        private static int leastNext(Tree t, int set) {
            int reached = reachedBy(t, set);
            for (int p = 0; p < t.planks; p++) {
                if (canFollow(t, set, reached, p)) {
                    return p;
                }
            }
            return NONE;
        }

        private static boolean canFollow(Tree t, int set, int reached, int p) {
            return (set >> p & 1) == 0 && (t.boughsOf(p) & reached) != 0;
        }

        /** BOUGH 0 and those of all PLANKS of a set, as bits. */
        private static int reachedBy(Tree t, int set) {
            int reached = 1;
            for (int p = 0; p < t.planks; p++) {
                if ((set >> p & 1) != 0) {
                    reached |= t.boughsOf(p);
                }
            }
            return reached;
        }
    }

    /** TESTS, and which PLANK may be ROTTEN by them. */
    private static final class Rot {
        int tests = 0;
        int trialPlank = NONE;
        int trialLoad = NONE;
        private final int[] plank = new int[MAX_TESTS];
        private final int[] load = new int[MAX_TESTS];
        private final int[] broke = new int[MAX_TESTS];

        boolean note(int p, int weight, int broken) {
            if (tests >= MAX_TESTS) {
                return false;
            }
            plank[tests] = p;
            load[tests] = weight;
            broke[tests] = broken;
            tests++;
            return true;
        }

        int suspects(Tree t) {
            int bits = 0;
            for (int p = 0; p < t.planks; p++) {
                if (agrees(t, p)) {
                    bits |= 1 << p;
                }
            }
            return bits;
        }

        private boolean agrees(Tree t, int rotten) {
            for (int i = 0; i < tests; i++) {
                if (breaks(t, plank[i], load[i], rotten) != (broke[i] == 1)) {
                    return false;
                }
            }
            return true;
        }

        private static boolean breaks(Tree t, int p, int weight, int rotten) {
            int holds = p == rotten ? t.holds[p] / 2 : t.holds[p];
            return holds < weight;
        }

        void seekTrial(Tree t) {
            int bits = suspects(t);
            int least = MAX_PLANKS + 1;
            for (int p = 0; p < t.planks; p++) {
                for (int weight = 1; weight <= MAX_TRIAL; weight++) {
                    int left = leftAtWorst(t, p, weight, bits);
                    if (left < least) {
                        least = left;
                        trialPlank = p;
                        trialLoad = weight;
                    }
                }
            }
        }

        private static int leftAtWorst(Tree t, int p, int weight, int bits) {
            int breaking = 0;
            for (int rotten = 0; rotten < t.planks; rotten++) {
                if ((bits >> rotten & 1) != 0 && breaks(t, p, weight, rotten)) {
                    breaking++;
                }
            }
            return Math.max(breaking, Integer.bitCount(bits) - breaking);
        }
    }
}
