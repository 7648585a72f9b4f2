import java.util.ArrayList;
import java.util.List;
import java.util.Random;

/** Runs of calls drawn from fixed seeds, on the program and on PlainSigns; every answer must be the same. */
public final class AgainstPlainModel {
    private static final String[] WORDS = {"lines", "circles", "bars", "arrows", "fills", "parts", "colour", "means",
        "took", "turned", "land", "site"};
    private static final String[] SIGNS = {"<=", ">=", "<", ">", "=", "#", "+", "-", "*", "(", ")", ";", "not", "must",
        "harm", "or", "and", "lines", "took", "7", "9999", "10000", "0012", "foo", "!", "\n", "Not", "99999999999999"};
    private static final int CALLS = 480;

    private final Random random;
    private final WordlessSigns signs = new WordlessSigns();
    private final PlainSigns plain = new PlainSigns();
    private final List<String> log = new ArrayList<>();
    private int calls;
    private boolean failed;

    private AgainstPlainModel(long seed) {
        random = new Random(seed);
    }

    public static void main(String[] args) {
        int runs = args.length > 0 ? Integer.parseInt(args[0]) : 300;
        int wrong = 0;
        for (int seed = 0; seed < runs; seed++) {
            AgainstPlainModel test = new AgainstPlainModel(seed);
            test.run(seed);
            if (test.failed) {
                wrong++;
                System.out.println("seed " + seed + ": " + test.log.get(test.log.size() - 1));
            }
        }
        for (int seed = 0; seed < 4 * runs; seed++) {
            AgainstPlainModel test = new AgainstPlainModel(seed);
            test.texts();
            if (test.failed) {
                wrong++;
                System.out.println("texts of seed " + seed + ": " + test.log.get(test.log.size() - 1));
            }
        }
        System.out.println(wrong == 0 ? "the program answers as the plain model" : wrong + " runs differ");
        if (wrong != 0) {
            System.exit(1);
        }
    }

    private void check(String call, int got, int want) {
        calls++;
        log.add(call + " answered " + got + ", the plain model " + want);
        failed |= got != want;
    }

    private static int bit(boolean b) {
        return b ? 1 : 0;
    }

    private int of(int n) {
        return random.nextInt(n);
    }

    /** Mostly from lo to hi; now and then beside it. */
    private int near(int lo, int hi) {
        int w = of(150);
        if (w == 0) {
            return lo - 1;
        }
        if (w == 1) {
            return hi + 1;
        }
        if (w == 2) {
            int[] odd = {Integer.MIN_VALUE, Integer.MAX_VALUE, -2, 4096, 1000000};
            return odd[of(odd.length)];
        }
        return lo + of(hi - lo + 1);
    }

    private int drawing() {
        return near(0, Math.max(0, plain.a.drawings.size() - 1));
    }

    private int thing() {
        return of(8) == 0 ? -1 : near(12, Math.max(12, 11 + plain.a.things.size()));
    }

    private int anyLook() {
        return of(2) == 0 ? drawing() : thing();
    }

    private void run(int seed) {
        int kinds = 1 + of(5);
        boolean full = seed % 100 == 7;
        int mostThings = full ? 12 : 1 + of(seed % 10 == 0 ? 12 : 6);
        int drawings = full ? 12 : 1 + of(7);
        for (int i = 0; i < drawings; i++) {
            check("look(false)", signs.look(false), plain.look(false));
        }
        for (int i = 0; i < mostThings; i++) {
            check("look(true)", signs.look(true), plain.look(true));
        }
        for (int t = 12; t < 12 + mostThings; t++) {
            for (int i = of(full ? 6 : 4); i >= 0; i--) {
                put(t, of(kinds), of(9), of(4));
            }
        }
        for (int d = 0; d < drawings; d++) {
            drawLike(d, 12 + of(mostThings), kinds);
        }
        for (int land = 0; land < 6; land++) {
            setLand(land);
        }
        if (of(10) > 0) {
            check("image()", signs.image(), plain.image());
        }
        while (calls < CALLS && !failed) {
            int which = of(100);
            if (which < 30) {
                change(of(19), kinds);
            } else if (which < 34) {
                text();
            } else if (which < 88) {
                ask(of(13));
            } else {
                askDear(of(9));
            }
        }
    }

    /** A drawing of a thing with a part or two that the thing has otherwise, so that readings are often right. */
    private void drawLike(int d, int t, int kinds) {
        for (PlainSigns.Part p : plain.at(t).parts) {
            put(d, p.kind(), of(3) == 0 ? of(9) : p.place(), of(4) == 0 ? of(4) : p.way());
        }
        if (of(3) == 0) {
            put(d, of(kinds), of(9), of(4));
        }
        boolean not = of(5) == 0;
        check("means(" + d + ", " + t + ", " + not + ")", bit(signs.means(d, t, not)), bit(plain.means(d, t, not)));
    }

    private void addPart(int kinds) {
        put(anyLook(), of(30) == 0 ? near(0, 4) : of(kinds), near(0, 8), near(0, 3));
    }

    private void put(int l, int k, int p, int w) {
        check("part(" + l + ", " + k + ", " + p + ", " + w + ")", signs.part(l, k, p, w), plain.part(l, k, p, w));
    }

    private void setLand(int land) {
        int share = of(4) == 0 ? 0 : near(0, 99);
        int all = (1 << plain.a.things.size()) - 1;
        int known = of(4) == 0 ? all : of(20) == 0 ? 4095 : near(0, all) | of(all + 1);
        known = of(10) == 0 ? known | -1 << of(32) : known;
        check("land(" + land + ", " + share + ", " + known + ")", bit(signs.land(land, share, known)),
                bit(plain.land(land, share, known)));
    }

    private void change(int which, int kinds) {
        int d = drawing();
        int t = thing();
        int l = anyLook();
        int land = near(0, 5);
        int site = near(0, 5);
        switch (which) {
            case 0, 1 -> addPart(kinds);
            case 2 -> {
                if (of(3) == 0) {
                    check("clear(" + l + ")", signs.clear(l), plain.clear(l));
                }
            }
            case 3 -> {
                int c = near(0, 3);
                check("colour(" + l + ", " + c + ")", bit(signs.colour(l, c)), bit(plain.colour(l, c)));
            }
            case 4, 5 -> {
                boolean not = of(t == -1 ? 2 : 4) == 0;
                check("means(" + d + ", " + t + ", " + not + ")", bit(signs.means(d, t, not)), bit(plain.means(d, t, not)));
            }
            case 6 -> {
                int m = near(0, of(4) == 0 ? 99 : 4);
                int u = near(0, of(4) == 0 ? 99 : 4);
                int o = near(0, of(4) == 0 ? 99 : 9);
                int c = near(0, of(4) == 0 ? 99 : 4);
                check("weights(" + m + ", " + u + ", " + o + ", " + c + ")", bit(signs.weights(m, u, o, c)),
                        bit(plain.weights(m, u, o, c)));
            }
            case 7 -> setLand(land);
            case 8 -> {
                int v = near(0, of(4) == 0 ? 99 : 9);
                check("lean(" + site + ", " + t + ", " + v + ")", bit(signs.lean(site, t, v)), bit(plain.lean(site, t, v)));
            }
            case 9 -> {
                int m = near(0, of(6) == 0 ? 999 : 30);
                int h = near(0, of(4) == 0 ? 99 : 12);
                int e = near(1, 1000);
                int f = near(0, of(2) == 0 ? 1000 : 100);
                check("rules(" + m + ", " + h + ", " + e + ", " + f + ")", bit(signs.rules(m, h, e, f)),
                        bit(plain.rules(m, h, e, f)));
            }
            case 10 -> {
                int g = near(0, 5);
                check("group(" + t + ", " + g + ")", bit(signs.group(t, g)), bit(plain.group(t, g)));
            }
            case 16 -> check("hang(" + d + ")", signs.hang(d), plain.hang(d));
            case 12 -> {
                int slot = near(0, 5);
                check("candidate(" + slot + ", " + d + ")", signs.candidate(slot, d), plain.candidate(slot, d));
            }
            case 13 -> {
                int k = of(kinds);
                int p = near(0, 8);
                int w = near(0, 3);
                check("stock(" + k + ", " + p + ", " + w + ")", signs.stock(k, p, w), plain.stock(k, p, w));
            }
            case 11 -> {
                int t2 = near(12, Math.max(12, 11 + plain.a.things.size()));
                PlainSigns.Look like = plain.at(t2);
                if (like != null && !like.parts.isEmpty()) {
                    PlainSigns.Part p = like.parts.get(of(like.parts.size()));
                    check("stock" + p, signs.stock(p.kind(), p.place(), p.way()),
                            plain.stock(p.kind(), p.place(), p.way()));
                }
            }
            case 14 -> check("teach(" + d + ", " + land + ")", signs.teach(d, land), plain.teach(d, land));
            case 15 -> {
                // Most answers are true of a reader who knows what the land knows, so that minds remain.
                int true_ = plain.taken(d, land, site);
                int told = of(5) == 0 ? t : true_;
                check("answer(" + land + ", " + site + ", " + d + ", " + told + ")", signs.answer(land, site, d, told),
                        plain.answer(land, site, d, told));
            }
            default -> changeSeldom(of(8));
        }
    }

    private void changeSeldom(int which) {
        switch (which) {
            case 0 -> check("image()", signs.image(), plain.image());
            case 1 -> check("back()", signs.back(), plain.back());
            case 2 -> check("unhang()", signs.unhang(), plain.unhang());
            case 3 -> {
                int n = near(1, 99);
                check("days(" + n + ")", signs.days(n), plain.days(n));
            }
            case 4 -> {
                int n = near(1, of(2) == 0 ? 50 : 3);
                check("weeks(" + n + ")", signs.weeks(n), plain.weeks(n));
            }
            case 5 -> {
                boolean t = of(2) == 0;
                check("look(" + t + ")", signs.look(t), plain.look(t));
            }
            case 6 -> {
                int d = drawing();
                int s = near(0, 5);
                check("made(" + d + ", " + s + ", 2)", signs.made(d, s, 2), plain.made(d, s, 2));
            }
            default -> {
                int g = near(-1, 3);
                check("by(" + g + ")", bit(signs.by(g)), bit(plain.by(g)));
            }
        }
    }

    private void ask(int which) {
        int d = drawing();
        int land = near(0, 5);
        int site = near(0, 5);
        int what = near(0, 2);
        String reading = "(" + d + ", " + land + ", " + site + ")";
        switch (which) {
            case 0 -> {
                int l = anyLook();
                int m = anyLook();
                check("far(" + l + ", " + m + ")", signs.far(l, m), plain.far(l, m));
            }
            case 1 -> check("taken" + reading, signs.taken(d, land, site), plain.taken(d, land, site));
            case 2 -> check("says(" + d + ", " + what + ")", signs.says(d, what), plain.says(d, what));
            case 3 -> check("right" + reading, signs.right(d, land, site), plain.right(d, land, site));
            case 4 -> check("harm" + reading, signs.harm(d, land, site), plain.harm(d, land, site));
            case 5 -> check("odds(" + d + ", " + site + ", " + what + ")", signs.odds(d, site, what),
                    plain.odds(d, site, what));
            case 6 -> {
                int set = near(0, (1 << plain.a.drawings.size()) - 1);
                check("least(" + set + ", " + what + ")", signs.least(set, what), plain.least(set, what));
            }
            case 7 -> {
                int i = near(0, 7);
                check("among(" + i + ", " + land + ", " + site + ")", signs.among(i, land, site),
                        plain.among(i, land, site));
            }
            case 8 -> {
                int n = near(0, of(2) == 0 ? 6 : 2);
                check("worn(" + d + ", " + site + ", " + n + ", " + what + ")", signs.worn(d, site, n, what),
                        plain.worn(d, site, n, what));
            }
            case 9 -> {
                int n = near(0, of(2) == 0 ? 50 : 8);
                check("tellings(" + d + ", " + land + ", " + n + ")", signs.tellings(d, land, n),
                        plain.tellings(d, land, n));
            }
            case 10, 11 -> {
                int e = drawing();
                int far = near(1, of(8) == 0 ? 999 : 25);
                int w = near(0, 3);
                check("mended(" + d + ", " + e + ", " + far + ", " + w + ")", signs.mended(d, e, far, w),
                        plain.mended(d, e, far, w));
            }
            default -> {
                int w = of(2) == 0 ? near(0, 8) : near(9, 50);
                check("about(" + w + ")", signs.about(w), plain.about(w));
            }
        }
    }

    private void askDear(int which) {
        int d = drawing();
        int land = near(0, 5);
        int site = near(0, 5);
        int what = near(0, 1);
        int day = near(0, Math.min(999, plain.a.clock + 1));
        switch (which) {
            case 0 -> check("made(" + d + ", " + site + ", " + what + ")", signs.made(d, site, what),
                    plain.made(d, site, what));
            case 1 -> {
                int slot = near(-1, 5);
                check("choice(" + slot + ")", signs.choice(slot), plain.choice(slot));
            }
            case 2 -> {
                int far = near(1, 20);
                check("bars(" + far + ")", signs.bars(far), plain.bars(far));
            }
            case 3 -> {
                int i = near(-1, 5);
                check("order(" + site + ", " + i + ")", signs.order(site, i), plain.order(site, i));
            }
            case 4 -> {
                int k = near(0, plain.a.things.size());
                check("anybody(" + d + ", " + site + ", " + k + ", " + what + ")", signs.anybody(d, site, k, what),
                        plain.anybody(d, site, k, what));
            }
            case 5 -> {
                int k = near(0, plain.a.things.size());
                int set = near(0, (1 << plain.a.drawings.size()) - 1);
                check("best(" + set + ", " + site + ", " + k + ")", signs.best(set, site, k), plain.best(set, site, k));
            }
            case 6 -> {
                int i = near(-1, of(2) == 0 ? -1 : 10);
                check("minds(" + land + ", " + day + ", " + i + ")", signs.minds(land, day, i), plain.minds(land, day, i));
            }
            case 7 -> {
                int t = thing();
                check("knows(" + land + ", " + day + ", " + t + ")", signs.knows(land, day, t), plain.knows(land, day, t));
            }
            default -> check("parts(" + land + ", " + site + ", " + what + ")", signs.parts(land, site, what),
                    plain.parts(land, site, what));
        }
    }

    /** Texts alone, many to an object: back makes room for more. */
    private void texts() {
        check("look(false)", signs.look(false), plain.look(false));
        check("look(true)", signs.look(true), plain.look(true));
        check("part", signs.part(0, 1, 2, 3), plain.part(0, 1, 2, 3));
        check("image()", signs.image(), plain.image());
        while (calls < CALLS && !failed) {
            text();
            check("says(0, 0)", signs.says(0, 0), plain.says(0, 0));
            check("says(0, 1)", signs.says(0, 1), plain.says(0, 1));
            check("harm(0, 1, 2)", signs.harm(0, 1, 2), plain.harm(0, 1, 2));
            if (plain.a.grammars.size() == 4) {
                check("back()", signs.back(), plain.back());
            }
        }
    }

    private void text() {
        String text = spoil(clauses());
        check("end(0)", signs.end(0), plain.end(0));
        int[] w = new int[5];
        for (int from = 0; from < text.length(); from += 20) {
            for (int i = 0; i < 20; i++) {
                int c = from + i < text.length() ? text.charAt(from + i) : of(256);
                w[i / 4] = w[i / 4] << 8 | c;
            }
            check("feed", signs.feed(w[0], w[1], w[2], w[3], w[4]), plain.feed(w));
        }
        check("end(" + text.length() + ")", signs.end(text.length()), plain.end(text.length()));
        check("grammar() of " + text, signs.grammar(), plain.grammar());
        check("fault(0) of " + text, signs.fault(0), plain.fault(0));
        check("fault(1) of " + text, signs.fault(1), plain.fault(1));
        check("fault(2)", signs.fault(2), plain.fault(2));
        check("about(8)", signs.about(8), plain.about(8));
        int g = plain.a.grammars.size() - 1;
        check("by(" + g + ")", bit(signs.by(g)), bit(plain.by(g)));
    }

    private String clauses() {
        StringBuilder b = new StringBuilder();
        int count = of(3) == 0 ? of(14) : of(4);
        boolean harm = false;
        for (int i = 0; i < count; i++) {
            int kind = of(3);
            if (kind == 2 && (!harm || of(10) == 0)) {
                harm = true;
                b.append("harm ").append(sum(true)).append(";");
            } else {
                b.append(kind == 0 ? "not " : "must ").append(either(of(12) == 0 ? 11 : 2)).append(";");
            }
        }
        return b.toString();
    }

    private String either(int depth) {
        StringBuilder b = new StringBuilder(ask(depth, true));
        for (int i = of(3); i > 0; i--) {
            b.append(of(2) == 0 ? " and " : " or ").append(ask(depth, true));
        }
        return b.toString();
    }

    private String ask(int depth, boolean brackets) {
        if (brackets && depth > 0 && of(depth > 2 ? 8 : 4) < (depth > 2 ? 7 : 1)) {
            return "(" + (depth > 2 ? ask(depth - 1, true) : either(depth - 1)) + ")";
        }
        String[] how = {"<", "<=", ">", ">=", "=", "#"};
        return sum(false) + how[of(6)] + sum(false);
    }

    private String sum(boolean harm) {
        StringBuilder b = new StringBuilder(one(harm));
        for (int i = of(3); i > 0; i--) {
            b.append("+-*".charAt(of(3))).append(of(4) == 0 ? " " : "").append(one(harm));
        }
        return b.toString();
    }

    private String one(boolean harm) {
        if (of(6) == 0) {
            return "-".repeat(1 + (of(6) == 0 ? of(9) : 0)) + one(harm);
        }
        if (of(2) == 0) {
            return String.valueOf(of(4) == 0 ? of(of(10) == 0 ? 11000 : 9999) : of(4));
        }
        return WORDS[of(harm || of(60) == 0 ? 12 : 8)];
    }

    private String spoil(String text) {
        StringBuilder b = new StringBuilder(text);
        if (of(2) == 0) {
            for (int i = of(3); i > 0; i--) {
                int at = of(b.length() + 1);
                int how = of(4);
                if (how == 0) {
                    b.insert(at, SIGNS[of(SIGNS.length)]);
                } else if (how == 1 && at < b.length()) {
                    b.deleteCharAt(at);
                } else if (how == 2) {
                    b.insert(at, (char) of(256));
                } else {
                    b.insert(at, " " + SIGNS[of(SIGNS.length)] + " ");
                }
            }
        }
        if (b.length() > 300) {
            b.setLength(300);
        }
        return b.toString();
    }
}
