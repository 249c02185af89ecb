import java.util.ArrayList;
import java.util.Arrays;
import java.util.List;

/** A second way to answer every call, as plain and as wasteful as the document's words: for ModelTest only. */
final class Model {
    private static final int BAD = -1, STATE = -2, FULL = -3, NONE = -9;

    /** {HEIGHT, STRONG, SWAY}, {A, B, HOLDS, J, K}, {WEIGHT, PAID} */
    private List<int[]> boughs = new ArrayList<>();
    private List<int[]> planks = new ArrayList<>();
    private List<int[]> children = new ArrayList<>();
    private String text = "";
    private Now now = new Now();
    private List<Now> past = new ArrayList<>();
    private Now[] images = new Now[2];
    private List<int[]> tests = new ArrayList<>();
    private long trace = 0;

    private static final class End {
        int kind;
        int wear;
        boolean out;
    }

    private static final class Now {
        int gales;
        List<Integer> on = new ArrayList<>();
        List<End> ends = new ArrayList<>();

        Now copy() {
            Now n = new Now();
            n.gales = gales;
            n.on.addAll(on);
            for (End e : ends) {
                End f = new End();
                f.kind = e.kind;
                f.wear = e.wear;
                f.out = e.out;
                n.ends.add(f);
            }
            return n;
        }

        int outs() {
            int n = 0;
            for (End e : ends) {
                n += e.out ? 1 : 0;
            }
            return n;
        }
    }

    int type(int letter) {
        if (letter < 0 || letter > 255) {
            return BAD;
        }
        if (text.length() == 200) {
            return FULL;
        }
        text += (char) letter;
        return text.length();
    }

    int clear() {
        int n = text.length();
        text = "";
        return n;
    }

    /** Cut into TOKENS first; a TOKEN that is none stands in the list as it is, and nothing accepts it. */
    int tree() {
        List<String> tokens = new ArrayList<>();
        List<Integer> places = new ArrayList<>();
        for (int i = 0; i < text.length();) {
            int j = i + 1;
            if (Character.isDigit(text.charAt(i)) && text.charAt(i) < 128) {
                while (j < text.length() && text.charAt(j) >= '0' && text.charAt(j) <= '9') {
                    j++;
                }
            }
            if (text.charAt(i) != ' ') {
                tokens.add(text.substring(i, j));
                places.add(i);
            }
            i = j;
        }
        places.add(text.length());
        List<int[]> bs = new ArrayList<>(), ps = new ArrayList<>(), cs = new ArrayList<>();
        int items = 0;
        int k = 0;
        while (k < tokens.size()) {
            String t = tokens.get(k);
            List<int[]> to = t.equals("b") ? bs : t.equals("p") ? ps : t.equals("c") ? cs : null;
            if (to == null || to.size() == (to == bs ? 8 : to == ps ? 6 : 5)) {
                return -10 - places.get(k);
            }
            int n = to == bs ? 3 : to == ps ? 5 : 2;
            int[] item = new int[n];
            for (int i = 0; i < n; i++) {
                k++;
                if (k == tokens.size() || !tokens.get(k).matches("0|[1-9][0-9]?")) {
                    return -10 - places.get(k);
                }
                item[i] = Integer.parseInt(tokens.get(k));
                boolean right;
                if (to == bs) {
                    right = i == 0 ? item[0] <= 20 : i == 1 ? item[1] >= 1 && item[1] <= 60 : item[2] <= 3;
                } else if (to == cs) {
                    right = item[i] <= 9 && (i == 1 || item[i] >= 1);
                } else if (i < 2) {
                    right = item[i] < bs.size();
                    if (right && i == 1) {
                        right = item[0] != item[1] && Math.abs(bs.get(item[0])[0] - bs.get(item[1])[0]) <= 2;
                    }
                } else {
                    right = i == 2 ? item[2] >= 1 && item[2] <= 40 : item[i] <= 3;
                }
                if (!right) {
                    return -10 - places.get(k);
                }
            }
            k++;
            if (k == tokens.size() || !tokens.get(k).equals(";")) {
                return -10 - places.get(k);
            }
            k++;
            to.add(item);
            items++;
        }
        boughs = bs;
        planks = ps;
        children = cs;
        now = new Now();
        for (int[] p : planks) {
            for (int e = 0; e < 2; e++) {
                End end = new End();
                end.kind = p[3 + e];
                now.ends.add(end);
            }
        }
        for (int i = 0; i < children.size(); i++) {
            now.on.add(NONE);
        }
        past.clear();
        images = new Now[2];
        tests.clear();
        text = "";
        return items;
    }

    private boolean has(List<int[]> of, int i) {
        return i >= 0 && i < of.size();
    }

    private int load(List<Integer> on, int p) {
        int sum = 0;
        for (int c = 0; c < children.size(); c++) {
            if (on.get(c) == p) {
                sum += children.get(c)[0];
            }
        }
        return sum;
    }

    private int bears(List<Integer> on, int b) {
        int sum = 0;
        for (int p = 0; p < planks.size(); p++) {
            int load = load(on, p);
            if (planks.get(p)[0] == b) {
                sum += (int) Math.ceil(load / 2.0);
            }
            if (planks.get(p)[1] == b) {
                sum += (int) Math.floor(load / 2.0);
            }
        }
        return sum;
    }

    private int tooLaden(List<Integer> on) {
        for (int p = 0; p < planks.size(); p++) {
            if (load(on, p) > planks.get(p)[2]) {
                return p;
            }
        }
        return NONE;
    }

    private int tooBent(List<Integer> on) {
        for (int b = 0; b < boughs.size(); b++) {
            if (bears(on, b) > boughs.get(b)[1]) {
                return b;
            }
        }
        return NONE;
    }

    private int unheld(List<Integer> on, List<End> ends) {
        for (int p = 0; p < planks.size(); p++) {
            if (load(on, p) > 0 && (ends.get(2 * p).out || ends.get(2 * p + 1).out)) {
                return p;
            }
        }
        return NONE;
    }

    private boolean holdsAll(List<Integer> on, List<End> ends) {
        return tooLaden(on) == NONE && tooBent(on) == NONE && unheld(on, ends) == NONE;
    }

    int bough(int b, int what) {
        if (!has(boughs, b) || what < 0 || what > 3) {
            return BAD;
        }
        return what == 3 ? bears(now.on, b) : boughs.get(b)[what];
    }

    int plank(int p, int what) {
        if (!has(planks, p) || what < 0 || what > 3) {
            return BAD;
        }
        return what == 3 ? load(now.on, p) : planks.get(p)[what];
    }

    private boolean hasEnd(int p, int e) {
        return has(planks, p) && (e == 0 || e == 1);
    }

    int end(int p, int e, int what) {
        if (!hasEnd(p, e) || what < 0 || what > 2) {
            return BAD;
        }
        End end = now.ends.get(2 * p + e);
        return what == 0 ? end.kind : what == 1 ? end.wear : end.out ? 1 : 0;
    }

    int child(int c, int what) {
        if (!has(children, c) || what < 0 || what > 2) {
            return BAD;
        }
        return what == 2 ? now.on.get(c) : children.get(c)[what];
    }

    int now(int what) {
        switch (what) {
            case 0: return holdsAll(now.on, now.ends) ? 1 : 0;
            case 1: return tooLaden(now.on);
            case 2: return tooBent(now.on);
            case 3: return unheld(now.on, now.ends);
            case 4: return now.gales;
            case 5: return past.size();
            default: return BAD;
        }
    }

    private void remember() {
        past.add(now.copy());
        if (past.size() > 10) {
            past.remove(0);
        }
    }

    int stands(int c, int p) {
        if (!has(children, c) || (p != NONE && !has(planks, p))) {
            return BAD;
        }
        remember();
        return now.on.set(c, p);
    }

    private int swayAcross(int p) {
        return Math.abs(boughs.get(planks.get(p)[0])[2] - boughs.get(planks.get(p)[1])[2]);
    }

    private static boolean gives(int kind, int wear) {
        return kind == 1 && wear >= 12 || kind == 2 && wear >= 20 || kind == 3 && wear >= 36;
    }

    private void blow(End end, int sway, int g) {
        if (end.out) {
            return;
        }
        if (end.kind > 0) {
            end.wear += sway * g / end.kind;
        }
        end.out = gives(end.kind, end.wear) || end.kind == 0 && g >= 7;
    }

    private void blow(Now n, int g) {
        for (int i = 0; i < n.ends.size(); i++) {
            blow(n.ends.get(i), swayAcross(i / 2), g);
        }
        n.gales++;
    }

    int gale(int g) {
        if (g < 1 || g > 9) {
            return BAD;
        }
        if (now.gales == 999) {
            return STATE;
        }
        remember();
        blow(now, g);
        return now.outs();
    }

    int join(int p, int e, int kind) {
        if (!hasEnd(p, e) || kind < 0 || kind > 3) {
            return BAD;
        }
        remember();
        End end = now.ends.get(2 * p + e);
        int was = end.kind;
        end.kind = kind;
        end.wear = 0;
        end.out = false;
        return was;
    }

    int spring() {
        remember();
        int n = 0;
        for (End e : now.ends) {
            if (e.kind == 1 && !e.out) {
                int was = e.wear;
                e.wear = e.wear < 2 ? 0 : e.wear - 2;
                n += e.wear < was ? 1 : 0;
            }
        }
        return n;
    }

    int undo() {
        if (past.isEmpty()) {
            return STATE;
        }
        now = past.remove(past.size() - 1);
        return past.size();
    }

    /** All rows, one by one, and of those that hold the best by the document's measures. */
    private List<Integer> bestRow(boolean rich) {
        int digits = planks.size() + 1;
        int rows = (int) Math.pow(digits, children.size());
        List<Integer> best = null;
        for (int r = 0; r < rows; r++) {
            Integer[] row = new Integer[children.size()];
            int rest = r;
            for (int c = row.length - 1; c >= 0; c--) {
                row[c] = rest % digits == planks.size() ? NONE : rest % digits;
                rest /= digits;
            }
            List<Integer> on = Arrays.asList(row);
            if (holdsAll(on, now.ends) && (best == null || better(on, best, rich))) {
                best = on;
            }
        }
        return best;
    }

    private boolean better(List<Integer> on, List<Integer> best, boolean rich) {
        if (!rich) {
            return standing(on) > standing(best);
        }
        return paid(on) > paid(best) || paid(on) == paid(best) && standing(on) < standing(best);
    }

    private static int standing(List<Integer> on) {
        int n = 0;
        for (int p : on) {
            n += p == NONE ? 0 : 1;
        }
        return n;
    }

    private int paid(List<Integer> on) {
        int n = 0;
        for (int c = 0; c < on.size(); c++) {
            n += on.get(c) == NONE ? 0 : children.get(c)[1];
        }
        return n;
    }

    int most(int c) {
        if (c != NONE && !has(children, c)) {
            return BAD;
        }
        List<Integer> best = bestRow(false);
        return c == NONE ? standing(best) : best.get(c) == NONE ? -5 : best.get(c);
    }

    int richest(int c) {
        if (c != NONE && !has(children, c)) {
            return BAD;
        }
        List<Integer> best = bestRow(true);
        return c == NONE ? paid(best) : best.get(c) == NONE ? -5 : best.get(c);
    }

    int firstOut(int g, int what) {
        if (g < 1 || g > 9 || what < 0 || what > 1) {
            return BAD;
        }
        Now later = now.copy();
        for (int n = 1; n <= 60; n++) {
            blow(later, g);
            for (int i = 0; i < later.ends.size(); i++) {
                if (later.ends.get(i).out && !now.ends.get(i).out) {
                    return what == 0 ? n : i;
                }
            }
        }
        return NONE;
    }

    int holdsFor(int g) {
        if (g < 1 || g > 9) {
            return BAD;
        }
        for (int n = 0; n <= 60; n++) {
            Now later = now.copy();
            for (int i = 0; i < n; i++) {
                blow(later, g);
            }
            if (!holdsAll(later.on, later.ends)) {
                return n;
            }
        }
        return NONE;
    }

    int bolts(int g, int n, int what) {
        if (g < 1 || g > 9 || n < 1 || n > 30 || what < 0 || what > 1) {
            return BAD;
        }
        int bits = 0;
        for (int i = 0; i < now.ends.size(); i++) {
            End as = now.copy().ends.get(i);
            if (as.out) {
                continue;
            }
            End bolted = new End();
            bolted.kind = 3;
            for (int k = 0; k < n; k++) {
                blow(as, swayAcross(i / 2), g);
                blow(bolted, swayAcross(i / 2), g);
            }
            if (as.out && (what == 0 || !bolted.out)) {
                bits += (int) Math.pow(2, i);
            }
        }
        return bits;
    }

    long odds(int p, int e, int n, int what) {
        if (!hasEnd(p, e) || n < 0 || n > 6 || what < 0 || what > 1) {
            return BAD;
        }
        End end = now.ends.get(2 * p + e);
        if (end.out) {
            return STATE;
        }
        long all = Math.round(Math.pow(6, n));
        long good = 0;
        for (int row = 0; row < all; row++) {
            End later = new End();
            later.kind = end.kind;
            later.wear = end.wear;
            int rest = row;
            for (int i = 0; i < n; i++) {
                blow(later, swayAcross(p), 1 + rest % 6);
                rest /= 6;
            }
            good += later.out ? 0 : 1;
        }
        long upper = good;
        for (int d = 2; d <= 3; d++) {
            while (upper % d == 0 && all % d == 0) {
                upper /= d;
                all /= d;
            }
        }
        return what == 0 ? upper : all;
    }

    private void orders(List<Integer> laid, List<List<Integer>> found) {
        if (laid.size() == planks.size()) {
            found.add(new ArrayList<>(laid));
        }
        for (int p = 0; p < planks.size(); p++) {
            if (laid.contains(p)) {
                continue;
            }
            boolean reached = planks.get(p)[0] == 0 || planks.get(p)[1] == 0;
            for (int q : laid) {
                for (int e = 0; e < 4; e++) {
                    reached |= planks.get(p)[e / 2] == planks.get(q)[e % 2];
                }
            }
            if (reached) {
                laid.add(p);
                orders(laid, found);
                laid.remove(laid.size() - 1);
            }
        }
    }

    int orders(int i) {
        if (i < -1) {
            return BAD;
        }
        List<List<Integer>> found = new ArrayList<>();
        orders(new ArrayList<>(), found);
        if (i == -1) {
            return found.size();
        }
        return found.isEmpty() ? NONE : i < planks.size() ? found.get(0).get(i) : -5;
    }

    int barred() {
        boolean[] reached = new boolean[8];
        reached[0] = true;
        for (int k = 0; k < 8; k++) {
            for (int[] p : planks) {
                boolean either = reached[p[0]] || reached[p[1]];
                reached[p[0]] |= either;
                reached[p[1]] |= either;
            }
        }
        int bits = 0;
        for (int p = 0; p < planks.size(); p++) {
            bits += reached[planks.get(p)[0]] ? 0 : 1 << p;
        }
        return bits;
    }

    int hoist(int b, int w) {
        if (!has(boughs, b) || w < 1 || w > 60) {
            return BAD;
        }
        for (int size = 0; size <= children.size(); size++) {
            for (int set = 0; set < 32; set++) {
                if (set >> children.size() != 0 || Integer.bitCount(set) != size) {
                    continue;
                }
                int pull = 0;
                for (int c = 0; c < children.size(); c++) {
                    pull += (set & 1 << c) != 0 ? children.get(c)[0] : 0;
                }
                boolean lifts = pull >= w + boughs.get(b)[0] / 4;
                if (lifts && bears(now.on, b) + w + pull <= boughs.get(b)[1]) {
                    return set;
                }
            }
        }
        return NONE;
    }

    int test(int p, int load, int broke) {
        if (!has(planks, p) || load < 1 || load > 60 || broke < 0 || broke > 1) {
            return BAD;
        }
        if (tests.size() == 6) {
            return FULL;
        }
        tests.add(new int[] {p, load, broke});
        return tests.size();
    }

    int forget() {
        int n = tests.size();
        tests.clear();
        return n;
    }

    private int breaks(int p, int load, int rotten) {
        int holds = planks.get(p)[2];
        return (p == rotten ? holds / 2 : holds) < load ? 1 : 0;
    }

    int mayBe() {
        int bits = 0;
        for (int r = 0; r < planks.size(); r++) {
            boolean agrees = true;
            for (int[] t : tests) {
                agrees &= breaks(t[0], t[1], r) == t[2];
            }
            bits += agrees ? 1 << r : 0;
        }
        return bits;
    }

    int ask(int what) {
        if (what < 0 || what > 1) {
            return BAD;
        }
        int bits = mayBe();
        int[] best = null;
        for (int p = 0; p < planks.size(); p++) {
            for (int load = 1; load <= 40; load++) {
                int[] n = new int[2];
                for (int r = 0; r < planks.size(); r++) {
                    if ((bits & 1 << r) != 0) {
                        n[breaks(p, load, r)]++;
                    }
                }
                int greater = n[0] > n[1] ? n[0] : n[1];
                if (best == null || greater < best[2]) {
                    best = new int[] {p, load, greater};
                }
            }
        }
        return best == null ? NONE : best[what];
    }

    int rate(int kind, int c) {
        if (kind < 0 || kind > 5 || !has(children, c)) {
            return -1000000;
        }
        int on = now.on.get(c);
        int weight = children.get(c)[0];
        int paid = children.get(c)[1];
        int height = on == NONE ? 0 : boughs.get(planks.get(on)[0])[0];
        int[] rates = {weight, weight + height, weight - paid, 2 * (weight + height), weight - paid + c,
            weight + now.outs()};
        int[] bodies = {1, 11, 101, 1011, 10101, 100001};
        trace += bodies[kind];
        return rates[kind];
    }

    int keep(int image) {
        if (image < 0 || image > 1) {
            return BAD;
        }
        images[image] = now.copy();
        return now.gales;
    }

    int back(int image) {
        if (image < 0 || image > 1) {
            return BAD;
        }
        if (images[image] == null) {
            return STATE;
        }
        now = images[image].copy();
        past.clear();
        return now.gales;
    }

    int count(int what) {
        switch (what) {
            case 0: return boughs.size();
            case 1: return planks.size();
            case 2: return children.size();
            case 3: return tests.size();
            case 4: return now.outs();
            case 5: return text.length();
            default: return BAD;
        }
    }

    long trace() {
        return trace;
    }
}
