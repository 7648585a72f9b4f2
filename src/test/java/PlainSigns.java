import java.util.ArrayList;
import java.util.Arrays;
import java.util.HashSet;
import java.util.List;
import java.util.Set;

/**
 * The document's words done the slow way: every set, pairing, order and mind is gone through one by one. The
 * program under test takes short cuts; AgainstPlainModel holds its answers against these.
 */
final class PlainSigns {
    static final int NONE = -1;

    record Part(int kind, int place, int way) { }

    record Answer(int land, int site, int drawing, int thing, int day) { }

    static final class Look {
        List<Part> parts = new ArrayList<>();
        int colour;
        int means = NONE;
        boolean not;

        Look copy() {
            Look c = new Look();
            c.parts.addAll(parts);
            c.colour = colour;
            c.means = means;
            c.not = not;
            return c;
        }
    }

    static final class All {
        List<Look> drawings = new ArrayList<>();
        List<Look> things = new ArrayList<>();
        int[] weights = {2, 1, 5, 3};
        int[] share = new int[6];
        int[] known = new int[6];
        int[][] lean = new int[6][12];
        int[] rules = {12, 4, 400, 100};
        List<PlainGrammar> grammars = new ArrayList<>();
        int grammar = NONE;
        List<Part> stock = new ArrayList<>();
        List<List<Integer>> slots = new ArrayList<>();
        int[] group = new int[12];
        List<Integer> row = new ArrayList<>();
        int[][] memory = new int[12][6];
        int clock;
        List<Answer> answers = new ArrayList<>();

        All() {
            for (int i = 0; i < 6; i++) {
                slots.add(new ArrayList<>());
            }
        }

        All copy() {
            All c = new All();
            for (Look d : drawings) {
                c.drawings.add(d.copy());
            }
            for (Look t : things) {
                c.things.add(t.copy());
            }
            c.weights = weights.clone();
            c.share = share.clone();
            c.known = known.clone();
            for (int i = 0; i < 6; i++) {
                c.lean[i] = lean[i].clone();
                c.slots.get(i).addAll(slots.get(i));
            }
            c.rules = rules.clone();
            c.grammars.addAll(grammars);
            c.grammar = grammar;
            c.stock.addAll(stock);
            c.group = group.clone();
            c.row.addAll(row);
            for (int i = 0; i < 12; i++) {
                c.memory[i] = memory[i].clone();
            }
            c.clock = clock;
            c.answers.addAll(answers);
            return c;
        }
    }

    All a = new All();
    All kept = new All();
    List<Integer> tape = new ArrayList<>();
    int fault = NONE;
    int faultPlace = NONE;

    static boolean in(int v, int lo, int hi) {
        return lo <= v && v <= hi;
    }

    boolean isD(int d) {
        return in(d, 0, a.drawings.size() - 1);
    }

    boolean isT(int t) {
        return in(t, 12, 11 + a.things.size());
    }

    Look at(int look) {
        if (isD(look)) {
            return a.drawings.get(look);
        }
        return isT(look) ? a.things.get(look - 12) : null;
    }

    int look(boolean thing) {
        List<Look> list = thing ? a.things : a.drawings;
        if (list.size() == 12) {
            return NONE;
        }
        list.add(new Look());
        return (thing ? 12 : 0) + list.size() - 1;
    }

    int part(int look, int kind, int place, int way) {
        Look l = at(look);
        Part p = new Part(kind, place, way);
        if (l == null || !in(kind, 0, 4) || !in(place, 0, 8) || !in(way, 0, 3)) {
            return NONE;
        }
        if (l.parts.contains(p) || l.parts.size() == 6) {
            return NONE;
        }
        l.parts.add(p);
        return l.parts.size();
    }

    int clear(int look) {
        Look l = at(look);
        if (l == null) {
            return NONE;
        }
        int n = l.parts.size();
        l.parts.clear();
        return n;
    }

    boolean colour(int look, int colour) {
        Look l = at(look);
        if (l == null || !in(colour, 0, 3)) {
            return false;
        }
        l.colour = colour;
        return true;
    }

    boolean means(int d, int thing, boolean not) {
        if (!isD(d) || !(thing == NONE || isT(thing))) {
            return false;
        }
        at(d).means = thing;
        at(d).not = thing != NONE && not;
        return true;
    }

    boolean weights(int m, int t, int d, int c) {
        if (!in(m, 0, 99) || !in(t, 0, 99) || !in(d, 0, 99) || !in(c, 0, 99)) {
            return false;
        }
        a.weights = new int[] {m, t, d, c};
        return true;
    }

    int far(int one, int other) {
        return at(one) == null || at(other) == null ? NONE : gap(at(one), at(other));
    }

    int gap(Look one, Look other) {
        return pairings(one.parts, new ArrayList<>(other.parts), 0)
                + (one.colour == other.colour ? 0 : a.weights[3]);
    }

    int pairings(List<Part> ones, List<Part> others, int i) {
        if (i == ones.size()) {
            return a.weights[2] * others.size();
        }
        Part p = ones.get(i);
        int least = a.weights[2] + pairings(ones, others, i + 1);
        for (int j = 0; j < others.size(); j++) {
            Part q = others.get(j);
            if (p.kind() != q.kind()) {
                continue;
            }
            int dx = Math.abs(p.place() % 3 - q.place() % 3);
            int dy = Math.abs(p.place() / 3 - q.place() / 3);
            int cost = a.weights[0] * Math.max(dx, dy) + (p.way() != q.way() ? a.weights[1] : 0);
            List<Part> rest = new ArrayList<>(others);
            rest.remove(j);
            least = Math.min(least, cost + pairings(ones, rest, i + 1));
        }
        return least;
    }

    boolean land(int land, int share, int known) {
        if (!in(land, 0, 5) || !in(share, 0, 99)) {
            return false;
        }
        a.share[land] = share;
        a.known[land] = 0;
        for (int i = 0; i < a.things.size(); i++) {
            a.known[land] |= known & 1 << i;
        }
        return true;
    }

    boolean lean(int site, int thing, int v) {
        if (!in(site, 0, 5) || !isT(thing) || !in(v, 0, 99)) {
            return false;
        }
        a.lean[site][thing - 12] = v;
        return true;
    }

    boolean rules(int limit, int help, int teach, int fade) {
        if (!in(limit, 0, 999) || !in(help, 0, 99) || !in(teach, 1, 1000) || !in(fade, 0, 1000)) {
            return false;
        }
        a.rules = new int[] {limit, help, teach, fade};
        return true;
    }

    int feed(int... words) {
        if (tape.size() > 280) {
            return NONE;
        }
        for (int w : words) {
            tape.add(w >>> 24);
            tape.add(w >>> 16 & 255);
            tape.add(w >>> 8 & 255);
            tape.add(w & 255);
        }
        return tape.size();
    }

    int end(int n) {
        if (!in(n, 0, tape.size())) {
            return NONE;
        }
        tape = new ArrayList<>(tape.subList(0, n));
        return n;
    }

    int grammar() {
        if (a.grammars.size() == 4) {
            return NONE;
        }
        PlainGrammar g = PlainGrammar.read(tape);
        tape = new ArrayList<>();
        fault = g.fault;
        faultPlace = g.place;
        if (fault != 0) {
            return NONE;
        }
        a.grammars.add(g);
        return a.grammars.size() - 1;
    }

    int fault(int what) {
        return what == 0 ? fault : what == 1 ? faultPlace : NONE;
    }

    boolean by(int g) {
        if (!in(g, -1, a.grammars.size() - 1)) {
            return false;
        }
        a.grammar = g;
        return true;
    }

    PlainGrammar the() {
        return a.grammar == NONE ? new PlainGrammar() : a.grammars.get(a.grammar);
    }

    /** Facts by which a grammar is asked: the eight of a drawing, then took, turned, land, site. */
    int[] facts(Look d, int took, boolean turned, int land, int site) {
        int[] f = new int[12];
        for (Part p : d.parts) {
            f[p.kind()]++;
        }
        f[5] = d.parts.size();
        f[6] = d.colour;
        f[7] = d.means == NONE ? -1 : d.means - 12;
        f[8] = took == NONE ? -1 : took - 12;
        f[9] = turned ? 1 : 0;
        f[10] = land;
        f[11] = site;
        return f;
    }

    boolean saysNot(Look d) {
        return the().saysNot(facts(d, NONE, false, 0, 0));
    }

    boolean isOf(Look d) {
        return the().isOf(facts(d, NONE, false, 0, 0));
    }

    int take(Look d, int known, int site, int... neighbours) {
        int best = NONE;
        int least = 0;
        for (int t = 12; t < 12 + a.things.size(); t++) {
            if ((known >> (t - 12) & 1) == 0) {
                continue;
            }
            int lean = a.lean[site][t - 12];
            boolean helped = false;
            for (int n : neighbours) {
                helped |= n != NONE && a.group[n - 12] != 0 && a.group[n - 12] == a.group[t - 12];
            }
            int v = gap(d, at(t)) - lean - (helped ? a.rules[1] : 0);
            if (best == NONE || v < least) {
                best = t;
                least = v;
            }
        }
        return best == NONE || least > a.rules[0] ? NONE : best;
    }

    int taken(int d, int land, int site) {
        return isD(d) && in(land, 0, 5) && in(site, 0, 5) ? take(at(d), a.known[land], site) : NONE;
    }

    int says(int d, int what) {
        if (!isD(d) || !in(what, 0, 1)) {
            return NONE;
        }
        return (what == 0 ? saysNot(at(d)) : isOf(at(d))) ? 1 : 0;
    }

    boolean isRight(Look d, int took, int memory) {
        return memory >= 500 || took != NONE && took == d.means && saysNot(d) == d.not;
    }

    int hurt(Look d, int took, int memory, int land, int site) {
        if (isRight(d, took, memory)) {
            return 0;
        }
        return the().harm(facts(d, took, saysNot(d) != d.not, land, site));
    }

    int right(int d, int land, int site) {
        if (!isD(d) || !in(land, 0, 5) || !in(site, 0, 5)) {
            return NONE;
        }
        return isRight(at(d), taken(d, land, site), a.memory[d][land]) ? 1 : 0;
    }

    int harm(int d, int land, int site) {
        if (!isD(d) || !in(land, 0, 5) || !in(site, 0, 5)) {
            return NONE;
        }
        return hurt(at(d), taken(d, land, site), a.memory[d][land], land, site);
    }

    int allHarm(Look look, int d, int site) {
        int sum = 0;
        for (int land = 0; land < 6; land++) {
            sum += a.share[land] * hurt(look, take(look, a.known[land], site), a.memory[d][land], land, site);
        }
        return sum;
    }

    int rightShares(Look look, int d, int site) {
        int sum = 0;
        for (int land = 0; land < 6; land++) {
            sum += isRight(look, take(look, a.known[land], site), a.memory[d][land]) ? a.share[land] : 0;
        }
        return sum;
    }

    int odds(int d, int site, int what) {
        if (!isD(d) || !in(site, 0, 5) || !in(what, 0, 2)) {
            return NONE;
        }
        return what == 0 ? allHarm(at(d), d, site) : what == 1 ? rightShares(at(d), d, site)
                : Arrays.stream(a.share).sum();
    }

    int stock(int kind, int place, int way) {
        Part p = new Part(kind, place, way);
        if (!in(kind, 0, 4) || !in(place, 0, 8) || !in(way, 0, 3) || a.stock.contains(p) || a.stock.size() == 10) {
            return NONE;
        }
        a.stock.add(p);
        return a.stock.size();
    }

    Look without(Look d, List<Part> parts) {
        Look c = d.copy();
        c.parts = parts;
        return c;
    }

    static List<Part> ofSet(List<Part> list, int set) {
        List<Part> parts = new ArrayList<>();
        for (int i = 0; i < list.size(); i++) {
            if ((set >> i & 1) != 0) {
                parts.add(list.get(i));
            }
        }
        return parts;
    }

    int made(int d, int site, int what) {
        if (!isD(d) || !in(site, 0, 5) || !in(what, 0, 2)) {
            return NONE;
        }
        int best = NONE;
        int least = 0;
        for (int size = 0; size <= 6; size++) {
            for (int set = 0; set < 1 << a.stock.size(); set++) {
                if (Integer.bitCount(set) != size) {
                    continue;
                }
                Look c = without(at(d), ofSet(a.stock, set));
                if (!isOf(c)) {
                    continue;
                }
                int h = allHarm(c, d, site);
                if (best == NONE || h < least) {
                    best = set;
                    least = h;
                }
            }
        }
        if (best == NONE || what == 0) {
            return best;
        }
        if (what == 1) {
            return least;
        }
        at(d).parts = ofSet(a.stock, best);
        return at(d).parts.size();
    }

    int least(int set, int what) {
        if (!in(set, 0, (1 << a.drawings.size()) - 1) || !in(what, 0, 2)) {
            return NONE;
        }
        int[] best = null;
        for (int i = 0; i < 12; i++) {
            for (int j = i + 1; j < 12; j++) {
                if ((set >> i & 1) != 0 && (set >> j & 1) != 0 && (best == null || far(i, j) < best[0])) {
                    best = new int[] {far(i, j), i, j};
                }
            }
        }
        return best == null ? NONE : best[what];
    }

    int candidate(int slot, int d) {
        if (!in(slot, 0, 5) || !isD(d) || a.slots.get(slot).contains(d) || a.slots.get(slot).size() == 4) {
            return NONE;
        }
        a.slots.get(slot).add(d);
        return a.slots.get(slot).size();
    }

    /** Every choice for the slots up to one, the first slot's candidates slowest. NONE for a slot without. */
    List<int[]> choices(int upTo) {
        List<int[]> all = new ArrayList<>();
        all.add(new int[0]);
        for (int slot = 0; slot <= upTo; slot++) {
            List<int[]> longer = new ArrayList<>();
            List<Integer> offers = a.slots.get(slot).isEmpty() ? List.of(NONE) : a.slots.get(slot);
            for (int[] c : all) {
                for (int o : offers) {
                    int[] n = Arrays.copyOf(c, c.length + 1);
                    n[c.length] = o;
                    longer.add(n);
                }
            }
            all = longer;
        }
        return all;
    }

    int leastOf(int[] choice) {
        int least = Integer.MAX_VALUE;
        for (int i = 0; i < choice.length; i++) {
            for (int j = i + 1; j < choice.length; j++) {
                if (choice[i] != NONE && choice[j] != NONE) {
                    least = Math.min(least, far(choice[i], choice[j]));
                }
            }
        }
        return least;
    }

    int choice(int slot) {
        int told = 0;
        for (List<Integer> s : a.slots) {
            told += s.isEmpty() ? 0 : 1;
        }
        if (!in(slot, -1, 5) || told < 2) {
            return NONE;
        }
        int[] best = null;
        int greatest = NONE;
        for (int[] c : choices(5)) {
            if (leastOf(c) > greatest) {
                greatest = leastOf(c);
                best = c;
            }
        }
        return slot == NONE ? greatest : best[slot];
    }

    int bars(int d) {
        if (!in(d, 1, 999)) {
            return NONE;
        }
        for (int slot = 0; slot < 6; slot++) {
            boolean some = false;
            for (int[] c : choices(slot)) {
                some |= leastOf(c) >= d;
            }
            if (!some) {
                return slot;
            }
        }
        return NONE;
    }

    boolean group(int thing, int group) {
        if (!isT(thing) || !in(group, 0, 5)) {
            return false;
        }
        a.group[thing - 12] = group;
        return true;
    }

    int hang(int d) {
        if (!isD(d) || a.row.size() == 8) {
            return NONE;
        }
        a.row.add(d);
        return a.row.size();
    }

    int unhang() {
        int n = a.row.size();
        a.row.clear();
        return n;
    }

    int[] tookAlong(List<Integer> row, int land, int site) {
        int[] took = new int[row.size()];
        for (int i = 0; i < row.size(); i++) {
            Look d = at(row.get(i));
            if (i == 0) {
                took[i] = take(d, a.known[land], site);
                continue;
            }
            int behind = i + 1 < row.size() ? take(at(row.get(i + 1)), a.known[land], site) : NONE;
            took[i] = take(d, a.known[land], site, took[i - 1], behind);
        }
        return took;
    }

    int among(int i, int land, int site) {
        if (!in(i, 0, a.row.size() - 1) || !in(land, 0, 5) || !in(site, 0, 5)) {
            return NONE;
        }
        return tookAlong(a.row, land, site)[i];
    }

    static void orders(List<Integer> left, List<Integer> sofar, List<List<Integer>> all) {
        if (left.isEmpty()) {
            all.add(sofar);
        }
        for (int i = 0; i < left.size(); i++) {
            List<Integer> l = new ArrayList<>(left);
            List<Integer> s = new ArrayList<>(sofar);
            s.add(l.remove(i));
            orders(l, s, all);
        }
    }

    int order(int site, int i) {
        if (!in(site, 0, 5) || !in(a.row.size(), 1, 6) || !in(i, -1, a.row.size() - 1)) {
            return NONE;
        }
        List<List<Integer>> all = new ArrayList<>();
        orders(a.row, new ArrayList<>(), all);
        List<Integer> best = null;
        int most = NONE;
        for (List<Integer> row : all) {
            int shares = 0;
            for (int land = 0; land < 6; land++) {
                int[] took = tookAlong(row, land, site);
                for (int p = 0; p < took.length; p++) {
                    int d = row.get(p);
                    shares += isRight(at(d), took[p], a.memory[d][land]) ? a.share[land] : 0;
                }
            }
            if (shares > most) {
                most = shares;
                best = row;
            }
        }
        return i == NONE ? most : best.get(i);
    }

    int worn(int d, int site, int n, int what) {
        if (!isD(d) || !in(site, 0, 5) || !in(n, 0, 6) || !in(what, 0, 1)) {
            return NONE;
        }
        int best = NONE;
        int least = NONE;
        int all = (1 << at(d).parts.size()) - 1;
        for (int lost = 0; lost <= all; lost++) {
            if (Integer.bitCount(lost) == n) {
                int shares = rightShares(without(at(d), ofSet(at(d).parts, all & ~lost)), d, site);
                if (best == NONE || shares < least) {
                    best = lost;
                    least = shares;
                }
            }
        }
        return what == 0 ? least : best;
    }

    int teach(int d, int land) {
        if (!isD(d) || !in(land, 0, 5)) {
            return NONE;
        }
        a.memory[d][land] = Math.min(1000, a.memory[d][land] + a.rules[2]);
        return a.memory[d][land];
    }

    int fade(int memory, int n) {
        int m = memory;
        for (int i = 0; i < n; i++) {
            m = m - m * a.rules[3] / 1000;
        }
        return m;
    }

    int weeks(int n) {
        if (!in(n, 1, 50)) {
            return NONE;
        }
        for (int[] m : a.memory) {
            for (int land = 0; land < 6; land++) {
                m[land] = fade(m[land], n);
            }
        }
        return n;
    }

    int tellings(int d, int land, int n) {
        if (!isD(d) || !in(land, 0, 5) || !in(n, 0, 50)) {
            return NONE;
        }
        for (int told = 0; told <= 100; told++) {
            if (fade(Math.min(1000, a.memory[d][land] + told * a.rules[2]), n) >= 500) {
                return told;
            }
        }
        return NONE;
    }

    int[] worst(int d, int site, int k) {
        int[] worst = null;
        for (int set = 0; set < 1 << a.things.size(); set++) {
            if (Integer.bitCount(set) == k) {
                int h = hurt(at(d), take(at(d), set, site), 0, -1, site);
                if (worst == null || h > worst[0]) {
                    worst = new int[] {h, set};
                }
            }
        }
        return worst;
    }

    int anybody(int d, int site, int k, int what) {
        if (!isD(d) || !in(site, 0, 5) || !in(k, 0, a.things.size()) || !in(what, 0, 1)) {
            return NONE;
        }
        return worst(d, site, k)[what];
    }

    int best(int set, int site, int k) {
        if (!in(set, 1, (1 << a.drawings.size()) - 1) || !in(site, 0, 5) || !in(k, 0, a.things.size())) {
            return NONE;
        }
        int best = NONE;
        for (int d = 0; d < 12; d++) {
            if ((set >> d & 1) != 0 && (best == NONE || worst(d, site, k)[0] < worst(best, site, k)[0])) {
                best = d;
            }
        }
        return best;
    }

    int days(int n) {
        if (!in(n, 1, 99) || a.clock + n > 999) {
            return NONE;
        }
        return a.clock += n;
    }

    int answer(int land, int site, int d, int thing) {
        if (!in(land, 0, 5) || !in(site, 0, 5) || !isD(d) || !(thing == NONE || isT(thing)) || a.answers.size() == 60) {
            return NONE;
        }
        a.answers.add(new Answer(land, site, d, thing, a.clock));
        return a.answers.size();
    }

    List<Integer> mindsOf(int land, int day) {
        List<Integer> minds = new ArrayList<>();
        for (int set = 0; set < 1 << a.things.size(); set++) {
            boolean so = true;
            for (Answer n : a.answers) {
                so &= n.land() != land || n.day() > day || take(at(n.drawing()), set, n.site()) == n.thing();
                if (!so) {
                    break;
                }
            }
            if (so) {
                minds.add(set);
            }
        }
        return minds;
    }

    int minds(int land, int known, int i) {
        if (!in(land, 0, 5) || !in(known, 0, 999)) {
            return NONE;
        }
        List<Integer> m = mindsOf(land, known);
        return i == NONE ? m.size() : in(i, 0, m.size() - 1) ? m.get(i) : NONE;
    }

    int knows(int land, int known, int thing) {
        if (!in(land, 0, 5) || !in(known, 0, 999) || !isT(thing)) {
            return NONE;
        }
        int with = 0;
        List<Integer> m = mindsOf(land, known);
        for (int set : m) {
            with += set >> (thing - 12) & 1;
        }
        return with == 0 ? 0 : with == m.size() ? 2 : 1;
    }

    int parts(int land, int site, int what) {
        if (!in(land, 0, 5) || !in(site, 0, 5) || !in(what, 0, 1)) {
            return NONE;
        }
        int best = NONE;
        int most = 1;
        List<Integer> m = mindsOf(land, a.clock);
        for (int d = 0; d < a.drawings.size(); d++) {
            Set<Integer> takes = new HashSet<>();
            for (int set : m) {
                takes.add(take(at(d), set, site));
            }
            if (takes.size() > most) {
                most = takes.size();
                best = d;
            }
        }
        return best == NONE || what == 0 ? best : most;
    }

    int mended(int one, int other, int d, int what) {
        if (!isD(one) || !isD(other) || one == other || !in(d, 1, 999) || !in(what, 0, 3)) {
            return NONE;
        }
        for (int i = 0; i < at(one).parts.size(); i++) {
            Part p = at(one).parts.get(i);
            List<int[]> changes = new ArrayList<>();
            for (int place = 0; place < 9; place++) {
                if (place != p.place()) {
                    changes.add(new int[] {0, place});
                }
            }
            for (int way = 0; way < 4; way++) {
                if (way != p.way()) {
                    changes.add(new int[] {1, way});
                }
            }
            changes.add(new int[] {2, NONE});
            for (int[] c : changes) {
                Look l = at(one).copy();
                if (c[0] == 2) {
                    l.parts.remove(i);
                } else {
                    l.parts.set(i, c[0] == 0 ? new Part(p.kind(), c[1], p.way()) : new Part(p.kind(), p.place(), c[1]));
                }
                boolean alike = new HashSet<>(l.parts).size() != l.parts.size();
                if (!alike && isOf(l) && gap(l, at(other)) >= d) {
                    return new int[] {i, c[0], c[1], gap(l, at(other))}[what];
                }
            }
        }
        return NONE;
    }

    int image() {
        kept = a.copy();
        return a.clock;
    }

    int back() {
        a = kept.copy();
        return a.clock;
    }

    int about(int what) {
        int[] counts = {a.clock, a.drawings.size(), a.things.size(), a.grammars.size(), a.grammar, a.stock.size(),
            a.row.size(), a.answers.size(), tape.size()};
        if (in(what, 0, 8)) {
            return counts[what];
        }
        return in(what, 20, 43) && at(what - 20) != null ? at(what - 20).parts.size() : NONE;
    }
}
