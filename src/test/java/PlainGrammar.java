import java.util.ArrayList;
import java.util.List;
import java.util.function.ToIntFunction;

/** A GRAMMAR read by descent through the document's rules, each rule a method, into functions of the facts. */
final class PlainGrammar {
    private static final List<String> NAMES = List.of("lines", "circles", "bars", "arrows", "fills", "parts", "colour",
            "means", "took", "turned", "land", "site");

    private static final class Fault extends RuntimeException {
        private static final long serialVersionUID = 1L;

        final int number;

        Fault(int number) {
            this.number = number;
        }
    }

    int fault;
    int place = -1;
    private final List<ToIntFunction<int[]>> nots = new ArrayList<>();
    private final List<ToIntFunction<int[]>> musts = new ArrayList<>();
    private ToIntFunction<int[]> harm;

    private String text = "";
    private int at;
    private String token = "";
    private int start;
    private int open;
    private boolean inHarm;

    static PlainGrammar read(List<Integer> tape) {
        PlainGrammar g = new PlainGrammar();
        StringBuilder b = new StringBuilder();
        for (int v : tape) {
            b.append((char) v);
        }
        g.text = b.toString();
        try {
            g.clauses();
        } catch (Fault f) {
            g.fault = f.number;
            g.place = g.start;
        }
        return g;
    }

    boolean saysNot(int[] facts) {
        return nots.stream().anyMatch(n -> n.applyAsInt(facts) != 0);
    }

    boolean isOf(int[] facts) {
        return musts.stream().allMatch(n -> n.applyAsInt(facts) != 0);
    }

    int harm(int[] facts) {
        return harm == null ? 1 : Math.max(0, harm.applyAsInt(facts));
    }

    private void next() {
        while (at < text.length() && (text.charAt(at) == 32 || text.charAt(at) == 10)) {
            at++;
        }
        start = at;
        String rest = text.substring(at);
        String[] forms = {"[a-zA-Z]+", "[0-9]+", "<=", ">=", "[<>=#+*();-]", "(?s)."};
        token = "";
        for (String form : forms) {
            java.util.regex.Matcher m = java.util.regex.Pattern.compile(form).matcher(rest);
            if (m.lookingAt()) {
                token = m.group();
                break;
            }
        }
        at += token.length();
    }

    private void want(boolean so, int number) {
        if (!so) {
            throw new Fault(number);
        }
    }

    private void clauses() {
        int count = 0;
        for (next(); !token.isEmpty(); next()) {
            String kind = token;
            want(List.of("not", "must", "harm").contains(kind), 1);
            want(!kind.equals("harm") || harm == null, 4);
            want(++count <= 10, 6);
            inHarm = kind.equals("harm");
            next();
            if (kind.equals("harm")) {
                harm = sum();
            } else if (kind.equals("not")) {
                nots.add(either());
            } else {
                musts.add(either());
            }
            want(token.equals(";"), 1);
        }
    }

    private ToIntFunction<int[]> either() {
        ToIntFunction<int[]> left = both();
        while (token.equals("or")) {
            next();
            ToIntFunction<int[]> l = left;
            ToIntFunction<int[]> r = both();
            left = f -> l.applyAsInt(f) + r.applyAsInt(f) > 0 ? 1 : 0;
        }
        return left;
    }

    private ToIntFunction<int[]> both() {
        ToIntFunction<int[]> left = ask();
        while (token.equals("and")) {
            next();
            ToIntFunction<int[]> l = left;
            ToIntFunction<int[]> r = ask();
            left = f -> l.applyAsInt(f) * r.applyAsInt(f);
        }
        return left;
    }

    private ToIntFunction<int[]> ask() {
        if (token.equals("(")) {
            want(++open <= 8, 3);
            next();
            ToIntFunction<int[]> e = either();
            want(token.equals(")"), 1);
            open--;
            next();
            return e;
        }
        ToIntFunction<int[]> l = sum();
        String how = token;
        want(List.of("<", "<=", ">", ">=", "=", "#").contains(how), 1);
        next();
        ToIntFunction<int[]> r = sum();
        return f -> {
            int c = Integer.compare(l.applyAsInt(f), r.applyAsInt(f));
            boolean so = switch (how) {
                case "<" -> c < 0;
                case "<=" -> c <= 0;
                case ">" -> c > 0;
                case ">=" -> c >= 0;
                case "=" -> c == 0;
                default -> c != 0;
            };
            return so ? 1 : 0;
        };
    }

    private static int cut(long v) {
        return (int) Math.max(-1000000, Math.min(1000000, v));
    }

    private ToIntFunction<int[]> sum() {
        ToIntFunction<int[]> left = product();
        while (token.equals("+") || token.equals("-")) {
            int sign = token.equals("+") ? 1 : -1;
            next();
            ToIntFunction<int[]> l = left;
            ToIntFunction<int[]> r = product();
            left = f -> cut((long) l.applyAsInt(f) + sign * r.applyAsInt(f));
        }
        return left;
    }

    private ToIntFunction<int[]> product() {
        ToIntFunction<int[]> left = one();
        while (token.equals("*")) {
            next();
            ToIntFunction<int[]> l = left;
            ToIntFunction<int[]> r = one();
            left = f -> cut((long) l.applyAsInt(f) * r.applyAsInt(f));
        }
        return left;
    }

    private ToIntFunction<int[]> one() {
        if (token.equals("-")) {
            want(++open <= 8, 3);
            next();
            ToIntFunction<int[]> o = one();
            open--;
            return f -> -o.applyAsInt(f);
        }
        if (token.matches("[0-9]+")) {
            java.math.BigInteger v = new java.math.BigInteger(token);
            want(v.compareTo(java.math.BigInteger.valueOf(9999)) <= 0, 2);
            next();
            return f -> v.intValue();
        }
        int name = NAMES.indexOf(token);
        want(name >= 0, 1);
        want(name < 8 || inHarm, 5);
        next();
        return f -> f[name];
    }
}
