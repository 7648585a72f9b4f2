/** The document's promises one by one: ordinary calls, the edges that it names, and wrong inputs. */
public final class PromiseTests {
    private static final int NONE = WordlessSigns.NONE;
    private static final int[] WRONG = {Integer.MIN_VALUE, -2, Integer.MAX_VALUE};
    private static int wrong;
    private static int promise;

    public static void main(String[] args) {
        looks();
        nearness();
        landsAndReading();
        grammars();
        faults();
        evaluation();
        harms();
        made();
        setsAndChoices();
        amongAndOrder();
        worn();
        learning();
        anybody();
        answers();
        mended();
        imageAndAbout();
        System.out.println(wrong == 0 ? "all promises hold" : wrong + " answers are not as due");
        if (wrong != 0) {
            System.exit(1);
        }
    }

    private static void due(String what, long got, long want) {
        if (got != want) {
            wrong++;
            System.out.println("promise " + promise + ": " + what + " answered " + got + ", due is " + want);
        }
    }

    private static void due(String what, boolean got, boolean want) {
        due(what, got ? 1 : 0, want ? 1 : 0);
    }

    private static WordlessSigns told(int drawings, int things) {
        WordlessSigns x = new WordlessSigns();
        for (int i = 0; i < drawings; i++) {
            x.look(false);
        }
        for (int i = 0; i < things; i++) {
            x.look(true);
        }
        return x;
    }

    /** Things at circles in places 0, 2, 6, 8, .. and so far apart; drawing i has a circle where thing i has it. */
    private static WordlessSigns corners(int count) {
        int[] places = {0, 2, 6, 8};
        WordlessSigns x = told(count, count);
        for (int i = 0; i < count; i++) {
            x.part(i, 1, places[i], 0);
            x.part(12 + i, 1, places[i], 0);
            x.means(i, 12 + i, false);
        }
        return x;
    }

    private static void feed(WordlessSigns x, String text) {
        x.end(0);
        for (int from = 0; from < text.length(); from += 20) {
            int[] w = new int[5];
            for (int i = 0; i < 20; i++) {
                w[i / 4] = w[i / 4] << 8 | (from + i < text.length() ? text.charAt(from + i) : 0);
            }
            x.feed(w[0], w[1], w[2], w[3], w[4]);
        }
        x.end(text.length());
    }

    private static int read(WordlessSigns x, String text) {
        feed(x, text);
        return x.grammar();
    }

    private static void readBy(WordlessSigns x, String text) {
        int number = read(x, text);
        due("grammar() of " + text + " stands", number >= 0, true);
        x.by(number);
    }

    private static void looks() {
        promise = 1;
        WordlessSigns x = new WordlessSigns();
        for (int what = -2; what < 50; what++) {
            due("about(" + what + ") of a new object", x.about(what), what < 0 || what > 8 || what == 4 ? NONE : 0);
        }
        x.look(false);
        x.land(0, 9, 0);
        due("back() to the new object", x.back(), 0);
        due("drawings then", x.about(1), 0);
        x.look(false);
        due("shares then", x.odds(0, 0, 2), 0);
        due("fault(0)", x.fault(0), NONE);

        promise = 2;
        x = new WordlessSigns();
        for (int i = 0; i < 12; i++) {
            due("look(false)", x.look(false), i);
            due("look(true)", x.look(true), 12 + i);
        }
        due("the 13th drawing", x.look(false), NONE);
        due("the 13th thing", x.look(true), NONE);

        promise = 3;
        x = told(1, 1);
        for (int i = 0; i < 6; i++) {
            due("part " + i, x.part(0, 4, 8, 3 - i % 4), i < 4 ? i + 1 : NONE);
        }
        due("the 5th", x.part(0, 0, 0, 0), 5);
        due("the same again", x.part(0, 0, 0, 0), NONE);
        due("the 6th", x.part(0, 0, 0, 1), 6);
        due("the 7th", x.part(0, 0, 0, 2), NONE);
        due("of a thing", x.part(12, 0, 0, 0), 1);
        int[][] others = {{1, 0, 0, 0}, {13, 0, 0, 0}, {11, 0, 0, 0}, {24, 0, 0, 0}, {-1, 0, 0, 0}, {12, -1, 0, 0},
            {12, 5, 0, 0}, {12, 0, -1, 0}, {12, 0, 9, 0}, {12, 0, 0, -1}, {12, 0, 0, 4}};
        for (int[] o : others) {
            due("part of others", x.part(o[0], o[1], o[2], o[3]), NONE);
        }
        due("nothing changed", x.about(32), 1);

        promise = 4;
        due("clear(0)", x.clear(0), 6);
        due("clear(0) again", x.clear(0), 0);
        due("clear(12)", x.clear(12), 1);
        due("clear(1)", x.clear(1), NONE);
        due("clear(13)", x.clear(13), NONE);
        due("a part comes anew", x.part(0, 4, 8, 3), 1);

        promise = 5;
        due("colour(12, 3)", x.colour(12, 3), true);
        due("colour(12, 4)", x.colour(12, 4), false);
        due("colour(12, -1)", x.colour(12, -1), false);
        due("colour(1, 0)", x.colour(1, 0), false);
        due("colour(24, 0)", x.colour(24, 0), false);
        x.clear(0);
        due("far by colour", x.far(0, 12), 3);

        promise = 6;
        due("means(0, 12, false)", x.means(0, 12, false), true);
        due("means(0, NONE, false)", x.means(0, NONE, false), true);
        due("means(0, NONE, true)", x.means(0, NONE, true), true);
        due("means(0, 13, false)", x.means(0, 13, false), false);
        due("means(0, 0, false)", x.means(0, 0, false), false);
        due("means(1, 12, false)", x.means(1, 12, false), false);
        due("means(12, 12, false)", x.means(12, 12, false), false);
        for (int v : WRONG) {
            due("means of wrong ones", x.means(v, 12, false) || x.means(0, v, false), false);
            due("part of wrong ones", x.part(v, 0, 0, 0), NONE);
            due("clear of wrong ones", x.clear(v), NONE);
            due("colour of wrong ones", x.colour(v, 0) || x.colour(0, v), false);
        }
    }

    private static void nearness() {
        promise = 7;
        WordlessSigns x = told(3, 3);
        due("weights at most", x.weights(99, 99, 99, 99), true);
        due("weights at least", x.weights(0, 0, 0, 0), true);
        x.weights(2, 1, 5, 3);
        x.part(0, 1, 0, 0);
        x.part(1, 1, 0, 1);
        for (int i = 0; i < 4; i++) {
            int[] over = {1, 1, 1, 1};
            int[] under = {1, 1, 1, 1};
            over[i] = 100;
            under[i] = -1;
            due("weights too great", x.weights(over[0], over[1], over[2], over[3]), false);
            due("weights too small", x.weights(under[0], under[1], under[2], under[3]), false);
        }
        due("turn is as it was", x.far(0, 1), 1);

        promise = 8;
        x.weights(2, 7, 5, 3);
        due("far by turn", x.far(0, 1), 7);
        x.weights(2, 11, 5, 3);
        due("dropping both is cheaper", x.far(0, 1), 10);
        x.weights(2, 1, 5, 3);
        x.part(2, 1, 8, 0);
        due("two steps aslant", x.far(0, 2), 4);
        due("and a turn", x.far(1, 2), 5);
        due("the same from there", x.far(2, 1), 5);
        due("to itself", x.far(2, 2), 0);
        due("untold ones", x.far(3, 0), NONE);
        due("untold ones", x.far(0, 15), NONE);
        due("no look", x.far(0, -1), NONE);
        due("no look", x.far(24, 0), NONE);
        due("to a thing without parts", x.far(0, 12), 5);
        // Nearest first would pair the 1 with the 0 and leave 0 and 2: the cheapest is 0 with 0 and 1 with 2.
        x.part(12, 0, 0, 0);
        x.part(12, 0, 1, 0);
        x.part(13, 0, 1, 0);
        x.part(13, 0, 2, 0);
        due("two steps of one", x.far(12, 13), 4);
        x.weights(10, 1, 7, 3);
        due("one drops at each side", x.far(12, 13), 14);
        x.part(14, 0, 1, 0);
        due("one drops at one side", x.far(12, 14), 7);
        x.part(14, 2, 0, 0);
        due("kinds do not mix", x.far(12, 14), 14);
        x.colour(14, 2);
        due("with a tint", x.far(12, 14), 17);
        WordlessSigns y = told(2, 0);
        for (int i = 0; i < 6; i++) {
            y.part(0, 3, i, 0);
            y.part(1, 3, 8 - i, 0);
        }
        due("six with six: each a row down", y.far(0, 1), 12);
    }

    private static void bitsThatDoNotCount() {
        for (int known : new int[] {-1, 4096, 1 << 31, Integer.MAX_VALUE, -4096, 4095}) {
            due("no things, known " + known, new WordlessSigns().land(0, 0, known), true);
            WordlessSigns x = corners(3);
            x.rules(999, 4, 400, 100);
            due("three things, known " + known, x.land(1, 7, known), true);
            due("its share, known " + known, x.odds(0, 0, 2), 7);
            due("taken, known " + known, x.taken(2, 1, 0), (known & 4) != 0 ? 14 : WordlessSigns.NONE);
        }
        WordlessSigns x = corners(2);
        due("all but THING 12, and bits beyond", x.land(0, 1, -2), true);
        x.rules(999, 4, 400, 100);
        due("12 is not known there", x.taken(0, 0, 0), 13);
    }

    private static void landsAndReading() {
        promise = 9;
        WordlessSigns x = corners(3);
        due("land(0, 99, 4095)", x.land(0, 99, 4095), true);
        due("land(5, 0, 0)", x.land(5, 0, 0), true);
        int[][] others = {{-1, 0, 0}, {6, 0, 0}, {0, -1, 0}, {0, 100, 0}, {-1, -1, -1}};
        for (int[] o : others) {
            due("land of others", x.land(o[0], o[1], o[2]), false);
        }
        due("nothing changed", x.odds(0, 0, 2), 99);
        bitsThatDoNotCount();
        x.look(true);
        due("a thing told later is not known there", x.far(0, 15), 5);
        x.rules(999, 4, 400, 100);
        x.clear(0);
        due("of told ones the nearest, of like ones the lowest", x.taken(0, 0, 0), 12);

        promise = 10;
        x = corners(2);
        x.land(0, 1, 3);
        due("lean(5, 13, 99)", x.lean(5, 13, 99), true);
        int[][] leans = {{-1, 12, 1}, {6, 12, 1}, {0, 11, 1}, {0, 14, 1}, {0, 0, 1}, {0, 12, -1}, {0, 12, 100}};
        for (int[] o : leans) {
            due("lean of others", x.lean(o[0], o[1], o[2]), false);
        }
        due("at the site", x.taken(0, 0, 5), 13);
        due("at another", x.taken(0, 0, 4), 12);

        promise = 11;
        due("rules at most", x.rules(999, 99, 1000, 1000), true);
        due("rules at least", x.rules(0, 0, 1, 0), true);
        int[][] rules = {{-1, 0, 1, 0}, {1000, 0, 1, 0}, {0, -1, 1, 0}, {0, 100, 1, 0}, {0, 0, 0, 0}, {0, 0, 1001, 0},
            {0, 0, 1, -1}, {0, 0, 1, 1001}};
        for (int[] r : rules) {
            due("rules of others", x.rules(r[0], r[1], r[2], r[3]), false);
        }
        due("teach is 1", x.teach(0, 0), 1);

        promise = 17;
        x = corners(2);
        x.land(0, 1, 2);
        x.rules(4, 4, 400, 100);
        due("at the limit", x.taken(0, 0, 0), 13);
        x.rules(3, 4, 400, 100);
        due("above the limit", x.taken(0, 0, 0), NONE);
        x.lean(0, 13, 1);
        due("less the lean", x.taken(0, 0, 0), 13);
        due("none known", x.taken(0, 1, 0), NONE);
        x.land(0, 1, 3);
        x.lean(0, 13, 4);
        due("of like ones the lowest", x.taken(0, 0, 0), 12);
        x.lean(0, 13, 5);
        due("FAR less LEAN below 0", x.taken(0, 0, 0), 13);
        due("others", x.taken(2, 0, 0), NONE);
        due("others", x.taken(12, 0, 0), NONE);
        due("others", x.taken(0, 6, 0), NONE);
        due("others", x.taken(0, -1, 0), NONE);
        due("others", x.taken(0, 0, 6), NONE);
        due("others", x.taken(0, 0, -1), NONE);

        promise = 19;
        x.lean(0, 13, 0);
        due("right", x.right(0, 0, 0), 1);
        due("wrong", x.right(1, 1, 0), 0);
        x.means(0, 13, false);
        due("wrong thing", x.right(0, 0, 0), 0);
        x.means(0, 12, true);
        due("not it", x.right(0, 0, 0), 0);
        readBy(x, "not circles=1;");
        due("read as not it", x.right(0, 0, 0), 1);
        x.means(0, 13, true);
        due("not another", x.right(0, 0, 0), 0);
        x.means(0, NONE, true);
        due("means none, taken for something", x.right(0, 0, 0), 0);
        due("means none, taken for nothing", x.right(0, 1, 0), 0);
        due("others", x.right(2, 0, 0), NONE);
        due("others", x.right(0, 6, 0), NONE);
        due("others", x.right(0, 0, 6), NONE);
    }

    private static void grammars() {
        promise = 12;
        WordlessSigns x = told(1, 1);
        for (int i = 1; i <= 15; i++) {
            due("feed", x.feed(0, 0, 0, 0, 0), 20 * i);
        }
        due("beyond 300", x.feed(0, 0, 0, 0, 0), NONE);
        due("none came", x.about(8), 300);
        due("end(281)", x.end(281), 281);
        due("19 are too few", x.feed(0, 0, 0, 0, 0), NONE);
        due("end(280)", x.end(280), 280);
        due("20 are enough", x.feed(0, 0, 0, 0, 0), 300);

        promise = 13;
        due("end(301)", x.end(301), NONE);
        due("end(-1)", x.end(-1), NONE);
        due("nothing is done", x.about(8), 300);
        due("end(7)", x.end(7), 7);
        due("end(8)", x.end(8), NONE);
        due("end(7) again", x.end(7), 7);
        due("end(0)", x.end(0), 0);
        // "not parts=0;" in the order of the bytes, the highest first.
        x.feed(0x6e6f7420, 0x70617274, 0x733d303b, 0xffffffff, 0x80808080);
        due("end(12)", x.end(12), 12);
        due("grammar()", x.grammar(), 0);

        promise = 14;
        due("the tape is empty", x.about(8), 0);
        due("the next", read(x, "harm 3;"), 1);
        due("a fault", read(x, "harm 3"), NONE);
        due("the tape is empty behind a fault", x.about(8), 0);
        due("no more for it", x.about(3), 2);
        due("the empty text", x.grammar(), 2);
        due("blanks alone", read(x, " \n "), 3);
        feed(x, "harm");
        due("there are 4", x.grammar(), NONE);
        due("the tape stays", x.about(8), 4);
        due("and is not read", x.fault(0), 0);

        promise = 15;
        x = told(1, 1);
        due("ahead of any", x.fault(0), NONE);
        due("ahead of any", x.fault(1), NONE);
        read(x, "must");
        due("fault", x.fault(0), 1);
        due("its place", x.fault(1), 4);
        due("others", x.fault(2), NONE);
        due("others", x.fault(-1), NONE);
        read(x, "must 1=1;");
        due("without", x.fault(0), 0);
        due("without", x.fault(1), NONE);

        promise = 16;
        due("by(1)", x.by(1), false);
        due("by(0)", x.by(0), true);
        due("THE GRAMMAR", x.about(4), 0);
        due("by(-2)", x.by(-2), false);
        due("by(4)", x.by(4), false);
        due("it stays", x.about(4), 0);
        due("by(NONE)", x.by(NONE), true);
        due("none", x.about(4), NONE);

        promise = 18;
        x = told(1, 1);
        due("without a grammar not", x.says(0, 0), 0);
        due("without a grammar of it", x.says(0, 1), 1);
        readBy(x, "not parts=0; must 1=1; must 1=2; not 1=2;");
        due("one not is enough", x.says(0, 0), 1);
        due("all musts are needed", x.says(0, 1), 0);
        due("others", x.says(0, 2), NONE);
        due("others", x.says(0, -1), NONE);
        due("others", x.says(1, 0), NONE);
        due("others", x.says(12, 0), NONE);
        x.by(NONE);
        due("none again", x.says(0, 0), 0);
    }

    private static void fault(String text, int number, int place) {
        WordlessSigns x = new WordlessSigns();
        int got = read(x, text);
        due("grammar() of " + text, got, number == 0 ? 0 : NONE);
        due("fault(0) of " + text, x.fault(0), number);
        due("fault(1) of " + text, x.fault(1), place);
    }

    private static void faults() {
        promise = 15;
        fault("not lines+circles*2-bars=arrows or fills#parts and colour<=means;", 0, NONE);
        fault("notlines=1;", 1, 0);
        fault("not(1=1);", 0, NONE);
        fault("not 1=1or 2=2and 3=3;", 0, NONE);
        fault("not 1=1 or2=2;", 0, NONE);
        fault("harm took+turned+land+site;", 0, NONE);
        fault("harm 1=1;", 1, 6);
        fault("harm 1 and 2;", 1, 7);
        fault("harm;", 1, 4);
        fault("not 1<=2;not 1>=2;", 0, NONE);
        fault("not 1< =2;", 1, 7);
        fault("not 1=<2;", 1, 6);
        fault("not 1<2<3;", 1, 7);
        fault("not (1<2)<3;", 1, 9);
        fault("not (1<2)+3;", 1, 9);
        fault("not (1<2;", 1, 8);
        fault("not 1<2);", 1, 7);
        fault("not 1<2 2", 1, 8);
        fault("not (1+2)<2;", 1, 8);
        fault("not 1<(2);", 1, 6);
        fault("not -(1<2);", 1, 5);
        fault("not ();", 1, 5);
        fault("not 1<2 or;", 1, 10);
        fault("not 1<2 or ", 1, 11);
        fault("not 1<2   ", 1, 10);
        fault("not 1<2;;", 1, 8);
        fault("lines=1;", 1, 0);
        fault(" \n!", 1, 2);
        fault("not lines\t=1;", 1, 9);
        fault("not lines=1;\r", 1, 12);
        fault("not Lines=1;", 1, 4);
        fault("not line=1;", 1, 4);
        fault("not liness=1;", 1, 4);
        fault("not linesa=1;", 1, 4);
        fault("not linesz=1;", 1, 4);
        fault("not linesA=1;", 1, 4);
        fault("not linesZ=1;", 1, 4);
        fault("not lines@=1;", 1, 9);
        fault("not lines[=1;", 1, 9);
        fault("not lines`=1;", 1, 9);
        fault("not lines{=1;", 1, 9);
        fault("not lines=1/;", 1, 11);
        fault("not lines=1:;", 1, 11);
        fault("not not=1;", 1, 4);
        fault("not harm=1;", 1, 4);
        fault("not 1 = 2 harm 1;", 1, 10);
        fault("not " + (char) 233 + "=1;", 1, 4);
        fault("not " + (char) 0 + "=1;", 1, 4);

        fault("harm 9999;", 0, NONE);
        fault("harm 10000;", 2, 5);
        fault("harm 00009999;", 0, NONE);
        fault("harm 99999999999999999999;", 2, 5);
        fault("harm 1 10000;", 1, 7);
        fault("10000", 1, 0);

        fault("must ((((((((1=1))))))));", 0, NONE);
        fault("must (((((((((1=1)))))))));", 3, 13);
        fault("must (((((((1=-1)))))));", 0, NONE);
        fault("must ((((((((1=-1))))))));", 3, 15);
        fault("must (((((((1=- -1)))))));", 3, 16);
        fault("harm --------1;", 0, NONE);
        fault("harm ---------1;", 3, 13);
        fault("harm --------1*--------1---------1;", 0, NONE);
        fault("must (1=1) and (1=1) and (1=1) and (1=1) and (1=1) and (1=1) and (1=1) and (1=1) and (1=1);", 0, NONE);
        fault("harm --------(1);", 1, 13);
        fault("must ((((((((1=(1))))))));", 1, 15);

        fault("harm 1;not 1=1;harm 2;", 4, 15);
        fault("harm 1;harm", 4, 7);
        fault("harm 1 harm 2;", 1, 7);

        fault("not took=1;", 5, 4);
        fault("must 1=turned;", 5, 7);
        fault("not land=1;", 5, 4);
        fault("not 1=1 and site=1;", 5, 12);
        fault("not 1 took;", 1, 6);
        fault("took", 1, 0);
        fault("harm 1;not took=1;", 5, 11);

        String ten = "not 1=1;".repeat(10);
        fault(ten, 0, NONE);
        fault(ten + " ", 0, NONE);
        fault(ten + "not 1=1;", 6, 80);
        fault(ten + " harm", 6, 81);
        fault(ten + "foo", 1, 80);
        fault("harm 1;" + "not 1=1;".repeat(9) + "harm 1;", 4, 79);
        fault("harm 1;" + "not 1=1;".repeat(9) + "must 1=1;", 6, 79);
    }

    /** What a harm of this sum is, for a drawing of two lines and an arrow, colour 3, that means 13 and was taken for 12. */
    private static void sum(String text, int want) {
        WordlessSigns x = told(1, 2);
        x.part(0, 0, 0, 0);
        x.part(0, 0, 1, 0);
        x.part(0, 3, 1, 0);
        x.colour(0, 3);
        x.means(0, 13, false);
        x.land(4, 1, 1);
        x.rules(999, 4, 400, 100);
        readBy(x, "harm " + text + ";");
        due("harm of " + text, x.harm(0, 4, 2), want);
    }

    private static void ask(String text, boolean want) {
        WordlessSigns x = told(1, 2);
        x.part(0, 2, 0, 0);
        x.means(0, 13, false);
        readBy(x, "not " + text + "; must " + text + ";");
        due("not of " + text, x.says(0, 0), want ? 1 : 0);
        due("must of " + text, x.says(0, 1), want ? 1 : 0);
    }

    private static void evaluation() {
        promise = 20;
        sum("lines", 2);
        sum("circles*100+bars*10+arrows+fills*1000", 1);
        sum("parts*1000+colour*100+means*10+took", 3310);
        sum("turned*100+land*10+site", 42);
        sum("10-3-2", 5);
        sum("10-3+2", 9);
        sum("2+3*4", 14);
        sum("2*3+4", 10);
        sum("2*3*4-5*2", 14);
        sum("-2*-3", 6);
        sum("--2", 2);
        sum("5- -2", 7);
        sum("5--2", 7);
        sum("0-5", 0);
        sum("9999*9999", 1000000);
        sum("9999*9999-1", 999999);
        sum("9999*9999*9999-9999*9999", 0);
        sum("9999*-9999+9999*100+109", 9);
        sum("9999*9999+5-1", 999999);
        sum("0-9999*9999-9999*9999+1000*1000+7", 7);
        ask("1<2", true);
        ask("2<2", false);
        ask("2<=2", true);
        ask("3<=2", false);
        ask("3>2", true);
        ask("2>2", false);
        ask("2>=2", true);
        ask("1>=2", false);
        ask("2=2", true);
        ask("1=2", false);
        ask("1#2", true);
        ask("2#2", false);
        ask("1=1 or 1=1 and 1=2", true);
        ask("(1=1 or 1=1) and 1=2", false);
        ask("1=2 and 1=1 or 1=1", true);
        ask("1=2 and (1=1 or 1=1)", false);
        ask("bars=1 and means=1 and parts=1", true);
        ask("bars+1>0-bars*2 and -bars<0", true);
    }

    private static void harms() {
        promise = 20;
        WordlessSigns x = corners(2);
        x.land(0, 10, 3);
        x.land(1, 20, 2);
        x.land(2, 7, 0);
        due("of a right one", x.harm(0, 0, 0), 0);
        due("without a grammar", x.harm(0, 1, 0), 1);
        readBy(x, "must 1=1;");
        due("without harm", x.harm(0, 1, 0), 1);
        readBy(x, "not parts=1;harm 5*turned+took+site;");
        due("turned", x.harm(0, 0, 0), 5);
        x.means(0, 12, true);
        due("right by not", x.harm(0, 0, 0), 0);
        due("took the other, not turned", x.harm(0, 1, 3), 4);
        due("took nothing", x.harm(0, 2, 3), 2);
        due("0 at least", x.harm(0, 2, 0), 0);
        x.by(0);
        due("meant not, read so", x.harm(0, 0, 0), 1);
        x.by(1);
        meansNoneNotTurned();
        x.means(1, 13, false);
        due("others", x.harm(2, 0, 0), NONE);
        due("others", x.harm(0, 6, 0), NONE);
        due("others", x.harm(0, 0, -1), NONE);

        promise = 21;
        x.by(NONE);
        x.means(0, 12, false);
        due("all harm", x.odds(0, 0, 0), 27);
        due("right shares", x.odds(0, 0, 1), 10);
        due("all shares", x.odds(0, 0, 2), 37);
        readBy(x, "harm 10*land+1;");
        due("all harm by the grammar", x.odds(0, 0, 0), 20 * 11 + 7 * 21);
        due("others", x.odds(2, 0, 0), NONE);
        due("others", x.odds(0, 6, 2), NONE);
        due("others", x.odds(0, 0, 3), NONE);
        due("others", x.odds(0, 0, -1), NONE);
        for (int land = 0; land < 6; land++) {
            x.land(land, 99, 0);
        }
        readBy(x, "harm 9999*9999;");
        due("the greatest", x.odds(0, 0, 0), 594000000);
    }

    /** Of a DRAWING that MEANS none there is no not, but THE GRAMMAR's. */
    private static void meansNoneNotTurned() {
        WordlessSigns x = corners(1);
        x.land(0, 10, 1);
        readBy(x, "harm 3+turned;");
        x.means(0, NONE, true);
        due("means none: nothing is turned", x.harm(0, 0, 0), 3);
        due("means none, taken for nothing", x.harm(0, 1, 0), 3);
        x.means(0, 12, true);
        due("means not it: turned", x.harm(0, 0, 0), 4);
        x.means(0, NONE, true);
        due("means none again: as at first", x.harm(0, 0, 0), 3);
        due("means none: shares and harm", x.odds(0, 0, 0), 30);
        due("means none: for anybody", x.anybody(0, 0, 1, 0), 3);
        readBy(x, "not 1=1;harm 3+turned;");
        due("means none, the grammar says not", x.harm(0, 0, 0), 4);
        x.means(0, NONE, false);
        due("means none, the grammar says not", x.harm(0, 0, 0), 4);
    }

    private static void made() {
        promise = 22;
        WordlessSigns x = told(1, 1);
        for (int i = 0; i < 10; i++) {
            due("stock " + i, x.stock(i % 5, i % 9, i % 4), i + 1);
            due("the same again", x.stock(i % 5, i % 9, i % 4), NONE);
        }
        due("the 11th", x.stock(4, 8, 2), NONE);
        x = told(2, 2);
        int[][] others = {{-1, 0, 0}, {5, 0, 0}, {0, -1, 0}, {0, 9, 0}, {0, 0, -1}, {0, 0, 4}};
        for (int[] o : others) {
            due("stock of others", x.stock(o[0], o[1], o[2]), NONE);
        }
        due("none came", x.about(5), 0);

        promise = 23;
        x.part(12, 0, 0, 0);
        x.part(12, 1, 4, 0);
        x.part(13, 1, 8, 0);
        x.land(0, 10, 3);
        x.means(0, 12, false);
        x.part(0, 1, 8, 0);
        due("of an empty list the empty set", x.made(0, 0, 0), 0);
        due("its harm", x.made(0, 0, 1), 10);
        x.stock(1, 8, 0);
        x.stock(1, 4, 0);
        x.stock(0, 4, 0);
        due("the line alone is enough", x.made(0, 0, 0), 4);
        due("without harm", x.made(0, 0, 1), 0);
        due("the drawing is as it was", x.far(0, 13), 0);
        due("drawn", x.made(0, 0, 2), 1);
        due("it is that now", x.far(0, 12), 7);
        due("and right", x.right(0, 0, 0), 1);
        readBy(x, "must parts>=2;");
        due("two by the grammar, the lowest set", x.made(0, 0, 0), 5);
        readBy(x, "must parts=3;");
        due("all of it", x.made(0, 0, 2), 3);
        due("in the list's order the line is the third, without which it is the other", x.worn(0, 0, 1, 1), 4);
        readBy(x, "must parts>3;");
        due("none is of it", x.made(0, 0, 0), NONE);
        due("none", x.made(0, 0, 1), NONE);
        due("none", x.made(0, 0, 2), NONE);
        due("it stays", x.about(20), 3);
        x.by(NONE);
        x.teach(0, 0);
        x.teach(0, 0);
        due("memory counts: the empty set does", x.made(0, 0, 0), 0);
        due("and is right", x.made(0, 0, 1), 0);
        due("nothing is left", x.made(0, 0, 2), 0);
        due("nothing is left", x.about(20), 0);
        due("memory stays", x.right(0, 0, 0), 1);
        due("others", x.made(2, 0, 0), NONE);
        due("others", x.made(12, 0, 0), NONE);
        due("others", x.made(0, 6, 0), NONE);
        due("others", x.made(0, 0, 3), NONE);
        due("others", x.made(0, 0, -1), NONE);
        x = told(1, 1);
        for (int i = 0; i < 9; i++) {
            x.stock(0, i, 0);
        }
        readBy(x, "must parts>5;");
        due("up to 6", x.made(0, 0, 0), 63);
        readBy(x, "must parts>6;");
        due("no 7", x.made(0, 0, 0), NONE);
        x = told(1, 1);
        for (int i = 0; i < 4; i++) {
            x.stock(i, 0, 0);
        }
        readBy(x, "must lines=1 and arrows=1 or circles=1 and bars=1;");
        due("of like ones with as many parts the lowest set", x.made(0, 0, 0), 6);
        x = told(1, 1);
        x.part(12, 0, 0, 0);
        x.part(12, 1, 0, 0);
        x.means(0, 12, false);
        x.land(5, 1, 1);
        x.stock(1, 0, 0);
        x.stock(0, 0, 0);
        x.rules(10, 4, 400, 100);
        due("nothing is 10 far, at the limit", x.made(0, 0, 0), 0);
        x.rules(9, 4, 400, 100);
        due("beyond it", x.made(0, 0, 0), 1);
        x.rules(0, 4, 400, 100);
        due("both", x.made(0, 0, 0), 3);
        x.stock(1, 1, 1);
        due("the same with more to choose of", x.made(0, 0, 0), 3);
    }

    private static void setsAndChoices() {
        promise = 24;
        WordlessSigns x = told(4, 0);
        x.part(0, 1, 0, 0);
        x.part(1, 1, 2, 0);
        x.part(2, 1, 1, 0);
        due("how far", x.least(7, 0), 2);
        due("the lower one first", x.least(7, 1), 0);
        due("the other", x.least(7, 2), 2);
        due("of two", x.least(3, 0), 4);
        due("one alone", x.least(4, 0), NONE);
        due("none", x.least(0, 0), NONE);
        due("untold", x.least(19, 0), NONE);
        due("untold", x.least(17, 0), NONE);
        due("others", x.least(-1, 0), NONE);
        due("others", x.least(4099, 0), NONE);
        due("others", x.least(7, 3), NONE);
        due("others", x.least(7, -1), NONE);

        promise = 25;
        due("the first", x.candidate(5, 3), 1);
        due("there already", x.candidate(5, 3), NONE);
        due("in another slot", x.candidate(0, 3), 1);
        x.look(false);
        due("2", x.candidate(0, 0), 2);
        due("3", x.candidate(0, 1), 3);
        due("4", x.candidate(0, 2), 4);
        due("the 5th", x.candidate(0, 4), NONE);
        due("others", x.candidate(6, 0), NONE);
        due("others", x.candidate(-1, 0), NONE);
        due("others", x.candidate(1, 5), NONE);
        due("others", x.candidate(1, -1), NONE);
        due("others", x.candidate(1, 12), NONE);

        promise = 26;
        x = told(4, 0);
        x.part(0, 1, 0, 0);
        x.part(1, 1, 2, 0);
        x.part(2, 1, 1, 0);
        x.part(3, 1, 8, 0);
        due("none told", x.choice(NONE), NONE);
        x.candidate(2, 2);
        due("one told", x.choice(NONE), NONE);
        due("one told", x.choice(2), NONE);
        x.candidate(4, 2);
        due("itself", x.choice(NONE), 0);
        x.candidate(4, 1);
        x.candidate(4, 0);
        due("of like ones the first as told", x.choice(4), 1);
        due("how far", x.choice(NONE), 2);
        x.candidate(4, 3);
        due("the greatest", x.choice(4), 3);
        due("a slot without", x.choice(3), NONE);
        due("others", x.choice(6), NONE);
        due("others", x.choice(-2), NONE);

        promise = 27;
        due("it is 4 far", x.bars(4), NONE);
        due("it is not 5 far", x.bars(5), 4);
        x.candidate(3, 0);
        due("earlier", x.bars(5), 3);
        due("others", x.bars(0), NONE);
        due("others", x.bars(1000), NONE);
        due("others", x.bars(-1), NONE);
        due("999", x.bars(999), 3);
        due("one told bars nothing", told(1, 0).bars(999), NONE);
        x = told(3, 0);
        x.part(0, 1, 0, 0);
        x.part(1, 1, 1, 0);
        x.candidate(0, 0);
        x.candidate(0, 2);
        x.candidate(1, 1);
        x.candidate(2, 0);
        due("a later slot needs another first", x.bars(1), NONE);
        due("no choice for all three", x.bars(3), 2);
    }

    private static void amongAndOrder() {
        promise = 28;
        WordlessSigns x = corners(4);
        due("group(15, 5)", x.group(15, 5), true);
        due("group(15, 0)", x.group(15, 0), true);
        due("others", x.group(15, 6), false);
        due("others", x.group(15, -1), false);
        due("others", x.group(16, 1), false);
        due("others", x.group(11, 1), false);

        promise = 29;
        for (int i = 0; i < 8; i++) {
            due("hang", x.hang(i % 4), i + 1);
        }
        due("the 9th", x.hang(0), NONE);

        promise = 30;
        due("unhang", x.unhang(), 8);
        due("unhang again", x.unhang(), 0);
        due("untold", x.hang(4), NONE);
        due("a thing", x.hang(12), NONE);
        due("no look", x.hang(-1), NONE);

        promise = 31;
        // Drawing 0 stands between things 12 and 13: 12 is nearer by 0, 13 by 4, so HELP 5 turns it.
        x.land(1, 1, 15);
        x.rules(12, 5, 400, 100);
        x.group(13, 2);
        x.group(14, 2);
        x.hang(0);
        x.hang(2);
        due("the first one as alone", x.among(0, 1, 0), 12);
        due("the second", x.among(1, 1, 0), 14);
        x.unhang();
        x.hang(2);
        x.hang(0);
        due("ahead as it was taken: 13 is of 14's group", x.among(1, 1, 0), 13);
        x.unhang();
        x.hang(3);
        x.hang(0);
        x.hang(2);
        due("behind as it is taken alone", x.among(1, 1, 0), 13);
        due("and then the next, helped itself", x.among(2, 1, 0), 14);
        x.rules(12, 4, 400, 100);
        due("4 more makes them alike: the lowest", x.among(1, 1, 0), 12);
        x.rules(12, 5, 400, 100);
        x.unhang();
        x.hang(2);
        x.hang(2);
        x.hang(0);
        x.hang(2);
        due("help of two neighbours counts once", x.among(2, 1, 0), 13);
        x.rules(12, 3, 400, 100);
        due("twice 3 would be enough", x.among(2, 1, 0), 12);
        x.rules(12, 5, 400, 100);
        x.group(13, 0);
        x.group(14, 0);
        due("0 is no group", x.among(2, 1, 0), 12);
        x.group(13, 2);
        x.group(14, 2);
        // A chain: 2 turns 0 to 13, and 13 turns the next 0 likewise.
        x.unhang();
        x.hang(2);
        x.hang(0);
        x.hang(0);
        due("ahead counts as it was taken there", x.among(2, 1, 0), 13);
        due("nothing known", x.among(2, 0, 0), NONE);
        due("others", x.among(3, 1, 0), NONE);
        due("others", x.among(-1, 1, 0), NONE);
        due("others", x.among(0, 6, 0), NONE);
        due("others", x.among(0, 1, 6), NONE);

        promise = 32;
        // Row 2 0 0: a 0 that is not first is turned by the 2 or by a turned 0; 0 2 0 comes ahead of 0 0 2.
        due("shares", x.order(0, NONE), 2);
        due("first", x.order(0, 0), 0);
        due("second", x.order(0, 1), 2);
        due("third", x.order(0, 2), 0);
        due("others", x.order(0, 3), NONE);
        due("others", x.order(0, -2), NONE);
        due("others", x.order(6, 0), NONE);
        x.unhang();
        due("an empty row", x.order(0, NONE), NONE);
        for (int i = 0; i < 6; i++) {
            x.hang(3 - i % 4);
        }
        due("six", x.order(0, NONE) > 0, true);
        x.hang(0);
        due("seven", x.order(0, NONE), NONE);
        due("seven", x.order(0, 0), NONE);
        x.unhang();
        x.hang(1);
        x.hang(0);
        x.rules(12, 0, 400, 100);
        due("of like ones as hung", x.order(0, 0), 1);
        x.land(1, 1, 0);
        due("none right", x.order(0, NONE), 0);
        x.rules(12, 0, 1000, 100);
        x.teach(0, 1);
        due("memory counts", x.order(0, NONE), 1);
        x.rules(12, 0, 500, 100);
        x.teach(1, 1);
        due("memory of 500 counts", x.order(0, NONE), 2);
        x.rules(12, 0, 499, 100);
        x.land(2, 10, 15);
        due("read as they are", x.order(0, NONE), 22);
        readBy(x, "not parts=1;");
        due("read as not", x.order(0, NONE), 2);
        for (int v : WRONG) {
            due("wrong ones", x.order(v, 0), NONE);
            due("wrong ones", x.among(v, 0, 0), NONE);
            due("wrong ones", x.hang(v), NONE);
            due("wrong ones", x.group(v, 1) || x.group(12, v), false);
        }
        backwardHelp();
    }

    /** The order matters by what stands behind, too: 0 turns if 2 stands at either side and 0 is not the first. */
    private static void backwardHelp() {
        WordlessSigns x = corners(4);
        x.land(1, 2, 15);
        x.rules(12, 5, 400, 100);
        x.group(13, 2);
        x.group(14, 2);
        x.clear(3);
        x.part(3, 2, 8, 0);
        x.clear(15);
        x.part(15, 2, 8, 0);
        x.hang(2);
        x.hang(0);
        x.hang(3);
        // 2 0 3 turns the 0; 2 3 0 does not.
        due("shares", x.order(0, NONE), 6);
        due("first", x.order(0, 0), 2);
        due("second", x.order(0, 1), 3);
        due("third", x.order(0, 2), 0);
    }

    private static void worn() {
        promise = 33;
        WordlessSigns x = told(1, 2);
        x.part(12, 0, 0, 0);
        x.part(12, 1, 4, 0);
        x.part(13, 1, 4, 0);
        x.part(0, 1, 4, 0);
        x.part(0, 0, 0, 0);
        x.means(0, 12, false);
        x.land(0, 5, 3);
        x.land(1, 6, 1);
        due("whole", x.worn(0, 0, 0, 0), 11);
        due("of none the empty set", x.worn(0, 0, 0, 1), 0);
        due("without the line it is the other", x.worn(0, 0, 1, 0), 6);
        due("that is the second part", x.worn(0, 0, 1, 1), 2);
        due("without all", x.worn(0, 0, 2, 0), 6);
        due("without all", x.worn(0, 0, 2, 1), 3);
        due("it has fewer", x.worn(0, 0, 3, 0), NONE);
        due("the drawing is whole", x.about(20), 2);
        x.rules(1, 4, 400, 100);
        due("of like ones the first", x.worn(0, 0, 1, 0), 0);
        due("of like ones the first", x.worn(0, 0, 1, 1), 1);
        x.rules(12, 4, 400, 100);
        readBy(x, "not parts=1;");
        due("worn ones are read by the grammar", x.worn(0, 0, 1, 0), 0);
        due("worn ones are read by the grammar", x.worn(0, 0, 1, 1), 1);
        due("whole ones are not", x.worn(0, 0, 0, 0), 11);
        x.teach(0, 1);
        x.teach(0, 1);
        due("memory counts", x.worn(0, 0, 1, 0), 6);
        due("others", x.worn(1, 0, 0, 0), NONE);
        due("others", x.worn(0, 6, 0, 0), NONE);
        due("others", x.worn(0, 0, -1, 0), NONE);
        due("others", x.worn(0, 0, 7, 0), NONE);
        due("others", x.worn(0, 0, 0, 2), NONE);
        due("others", x.worn(0, 0, 0, -1), NONE);
    }

    private static void learning() {
        promise = 34;
        WordlessSigns x = told(2, 1);
        due("first", x.teach(1, 5), 400);
        due("second", x.teach(1, 5), 800);
        due("at most", x.teach(1, 5), 1000);
        due("another land", x.teach(1, 4), 400);
        due("another drawing", x.teach(0, 5), 400);
        due("others", x.teach(2, 0), NONE);
        due("others", x.teach(12, 0), NONE);
        due("others", x.teach(0, 6), NONE);
        due("others", x.teach(0, -1), NONE);
        due("right by memory", x.right(1, 5, 0), 1);
        due("no harm by memory", x.harm(1, 5, 0), 0);
        due("below 500 not", x.right(1, 4, 0), 0);

        promise = 35;
        x = told(1, 1);
        x.rules(12, 4, 555, 100);
        x.teach(0, 0);
        due("weeks(1)", x.weeks(1), 1);
        // 555 less 55 is 500: the loss is cut, not what is left.
        due("500 is right", x.right(0, 0, 0), 1);
        x.weeks(1);
        due("450 is not", x.right(0, 0, 0), 0);
        x.rules(12, 4, 1, 100);
        due("450 and 1", x.teach(0, 0), 451);
        due("weeks(0)", x.weeks(0), NONE);
        due("weeks(51)", x.weeks(51), NONE);
        due("weeks(-1)", x.weeks(-1), NONE);
        due("none went by", x.teach(0, 0), 452);
        x.rules(12, 4, 1, 1000);
        due("weeks(50)", x.weeks(50), 50);
        due("all is forgotten", x.teach(0, 0), 1);
        x.rules(12, 4, 1, 0);
        x.weeks(50);
        due("nothing is forgotten", x.teach(0, 0), 2);

        promise = 36;
        x = told(1, 1);
        due("two", x.tellings(0, 0, 0), 2);
        due("two for 4 weeks", x.tellings(0, 0, 4), 2);
        due("three for 5", x.tellings(0, 0, 5), 3);
        due("three for 6", x.tellings(0, 0, 6), 3);
        due("never for 7", x.tellings(0, 0, 7), NONE);
        due("memory is as it was", x.teach(0, 0), 400);
        x.teach(0, 0);
        due("none is needed", x.tellings(0, 0, 0), 0);
        x = told(1, 1);
        x.rules(12, 4, 5, 0);
        due("100", x.tellings(0, 0, 50), 100);
        x.rules(12, 4, 4, 0);
        due("101 are too many", x.tellings(0, 0, 0), NONE);
        due("others", x.tellings(1, 0, 0), NONE);
        due("others", x.tellings(0, 6, 0), NONE);
        due("others", x.tellings(0, 0, -1), NONE);
        due("others", x.tellings(0, 0, 51), NONE);
    }

    private static void anybody() {
        promise = 37;
        WordlessSigns x = corners(3);
        readBy(x, "harm took+10-land+100*site;");
        due("who knows nothing", x.anybody(0, 0, 0, 0), 10);
        due("the empty set", x.anybody(0, 0, 0, 1), 0);
        due("who knows one", x.anybody(0, 0, 1, 0), 13);
        due("that is 14", x.anybody(0, 0, 1, 1), 4);
        due("who knows two: 13 as near as 14, the lower", x.anybody(0, 0, 2, 0), 12);
        due("13 and 14", x.anybody(0, 0, 2, 1), 6);
        due("who knows all", x.anybody(0, 0, 3, 0), 0);
        due("who knows all", x.anybody(0, 0, 3, 1), 7);
        due("at another site", x.anybody(0, 5, 1, 0), 513);
        x.by(NONE);
        due("the first of like ones", x.anybody(0, 0, 1, 1), 2);
        for (int land = 0; land < 6; land++) {
            x.teach(0, land);
            x.teach(0, land);
        }
        due("memory is of lands", x.anybody(0, 0, 1, 0), 1);
        due("others", x.anybody(3, 0, 0, 0), NONE);
        due("others", x.anybody(0, 6, 0, 0), NONE);
        due("others", x.anybody(0, 0, 4, 0), NONE);
        due("others", x.anybody(0, 0, -1, 0), NONE);
        due("others", x.anybody(0, 0, 0, 2), NONE);

        promise = 38;
        due("all alike: the lowest", x.best(6, 0, 1), 1);
        x.rules(0, 4, 400, 100);
        x.clear(0);
        due("with all known", x.best(7, 0, 3), 1);
        due("one", x.best(1, 0, 3), 0);
        due("none", x.best(0, 0, 3), NONE);
        due("others", x.best(8, 0, 3), NONE);
        due("others", x.best(9, 0, 3), NONE);
        due("others", x.best(-1, 0, 3), NONE);
        due("others", x.best(1, 6, 3), NONE);
        due("others", x.best(1, 0, 4), NONE);
        due("others", x.best(1, 0, -1), NONE);
    }

    private static void answers() {
        promise = 39;
        WordlessSigns x = corners(3);
        due("days(99)", x.days(99), 99);
        due("days(0)", x.days(0), NONE);
        due("days(100)", x.days(100), NONE);
        due("days(-1)", x.days(-1), NONE);
        for (int i = 2; i <= 10; i++) {
            due("days(99)", x.days(99), 99 * i);
        }
        due("beyond 999", x.days(10), NONE);
        due("to 999", x.days(9), 999);
        due("beyond 999", x.days(1), NONE);

        promise = 40;
        for (int i = 1; i <= 60; i++) {
            due("answer", x.answer(0, 0, 0, i % 2 == 0 ? 12 : NONE), i);
        }
        due("the 61st", x.answer(0, 0, 0, 12), NONE);
        x = corners(3);
        int[][] others = {{6, 0, 0, 12}, {-1, 0, 0, 12}, {0, 6, 0, 12}, {0, -1, 0, 12}, {0, 0, 3, 12}, {0, 0, 12, 12},
            {0, 0, -1, 12}, {0, 0, 0, 15}, {0, 0, 0, 0}, {0, 0, 0, -2}};
        for (int[] o : others) {
            due("answer of others", x.answer(o[0], o[1], o[2], o[3]), NONE);
        }
        due("none came", x.about(7), 0);

        promise = 41;
        due("all sets", x.minds(0, 0, NONE), 8);
        due("the first", x.minds(0, 0, 0), 0);
        due("the last", x.minds(0, 0, 7), 7);
        due("none such", x.minds(0, 0, 8), NONE);
        due("none such", x.minds(0, 0, -2), NONE);
        x.days(5);
        x.answer(0, 0, 0, 13);
        // 13 taken for a circle at 0: 12 is nearer and not known, 14 as near but higher, may be.
        due("those with 13, without 12", x.minds(0, 5, NONE), 2);
        due("the first", x.minds(0, 5, 0), 2);
        due("the second", x.minds(0, 5, 1), 6);
        due("the day ahead", x.minds(0, 4, NONE), 8);
        due("a day to come", x.minds(0, 999, NONE), 2);
        due("another land", x.minds(1, 5, NONE), 8);
        x.answer(0, 0, 1, 14);
        due("at odds", x.minds(0, 5, NONE), 0);
        due("none such", x.minds(0, 5, 0), NONE);
        x.rules(3, 4, 400, 100);
        due("limit as it is now", x.minds(0, 5, NONE), 0);
        x.rules(12, 4, 400, 100);
        x.lean(0, 14, 1);
        due("leans as they are now: 14 in both", x.minds(0, 5, NONE), 0);
        x = corners(3);
        x.answer(0, 0, 0, NONE);
        due("nothing: none within the limit", x.minds(0, 0, NONE), 1);
        x.rules(3, 4, 400, 100);
        due("12 alone is within it", x.minds(0, 0, NONE), 4);
        due("12 alone is within it", x.minds(0, 0, 3), 6);
        x.rules(4, 4, 400, 100);
        due("at the limit is within it", x.minds(0, 0, NONE), 1);
        x.rules(3, 4, 400, 100);
        x.look(true);
        due("a thing told later counts", x.minds(0, 0, NONE), 8);
        due("others", x.minds(6, 0, NONE), NONE);
        due("others", x.minds(-1, 0, NONE), NONE);
        due("others", x.minds(0, -1, NONE), NONE);
        due("others", x.minds(0, 1000, NONE), NONE);

        promise = 42;
        x = corners(3);
        due("may be", x.knows(0, 0, 12), 1);
        x.days(1);
        x.answer(0, 0, 0, 13);
        due("not", x.knows(0, 1, 12), 0);
        due("sure", x.knows(0, 1, 13), 2);
        due("may be", x.knows(0, 1, 14), 1);
        due("ahead of it", x.knows(0, 0, 12), 1);
        x.answer(0, 0, 0, NONE);
        due("no minds", x.knows(0, 1, 13), 0);
        due("others", x.knows(6, 0, 12), NONE);
        due("others", x.knows(0, -1, 12), NONE);
        due("others", x.knows(0, 1000, 12), NONE);
        due("others", x.knows(0, 0, 15), NONE);
        due("others", x.knows(0, 0, 11), NONE);
        due("others", x.knows(0, 0, NONE), NONE);

        promise = 43;
        x = corners(3);
        due("all three and nothing: the lowest", x.parts(0, 0, 0), 0);
        due("how many", x.parts(0, 0, 1), 4);
        x.rules(0, 4, 400, 100);
        x.clear(0);
        due("nothing within the limit for 0", x.parts(0, 0, 0), 1);
        due("its own and nothing", x.parts(0, 0, 1), 2);
        x.rules(12, 4, 400, 100);
        x.answer(0, 0, 1, 12);
        due("12 known, 13 not: 14 may be", x.knows(0, 0, 14), 1);
        due("that parts by 2 alone", x.parts(0, 0, 0), 2);
        due("for two", x.parts(0, 0, 1), 2);
        x.answer(0, 0, 2, 14);
        due("all is known", x.parts(0, 0, 0), NONE);
        due("all is known", x.parts(0, 0, 1), NONE);
        x.answer(0, 0, 2, 12);
        due("no minds", x.parts(0, 0, 0), NONE);
        due("another land", x.parts(1, 0, 0), 0);
        due("others", x.parts(6, 0, 0), NONE);
        due("others", x.parts(0, 6, 0), NONE);
        due("others", x.parts(1, 0, 2), NONE);
        due("others", x.parts(0, 0, -1), NONE);
        due("no drawings", told(0, 3).parts(0, 0, 0), NONE);
    }

    private static void mending(WordlessSigns x, int d, int part, int change, int to, int far) {
        due("mended by " + d + ", the part", x.mended(0, 1, d, 0), part);
        due("mended by " + d + ", the change", x.mended(0, 1, d, 1), change);
        due("mended by " + d + ", to", x.mended(0, 1, d, 2), to);
        due("mended by " + d + ", far", x.mended(0, 1, d, 3), far);
    }

    private static void mended() {
        promise = 44;
        WordlessSigns x = told(2, 1);
        due("without parts", x.mended(0, 1, 1, 0), NONE);
        x.part(0, 1, 4, 0);
        x.part(1, 1, 4, 0);
        mending(x, 1, 0, 0, 0, 2);
        mending(x, 2, 0, 0, 0, 2);
        mending(x, 3, 0, 2, NONE, 5);
        mending(x, 6, NONE, NONE, NONE, NONE);
        x.weights(0, 1, 5, 3);
        mending(x, 1, 0, 1, 1, 1);
        x.weights(2, 1, 5, 3);
        x.part(0, 1, 0, 0);
        // Part 0 may not go to place 0, where part 1 is; to place 1 it leaves 0 to be moved to 4.
        mending(x, 6, 0, 0, 1, 7);
        mending(x, 7, 0, 0, 1, 7);
        mending(x, 8, NONE, NONE, NONE, NONE);
        readBy(x, "must parts=1;");
        mending(x, 2, 0, 2, NONE, 2);
        readBy(x, "must parts=0;");
        mending(x, 1, NONE, NONE, NONE, NONE);
        due("the drawing is as it was", x.about(20), 2);
        due("others", x.mended(0, 0, 1, 0), NONE);
        due("others", x.mended(0, 12, 1, 0), NONE);
        due("others", x.mended(12, 0, 1, 0), NONE);
        due("others", x.mended(0, 2, 1, 0), NONE);
        due("others", x.mended(2, 0, 1, 0), NONE);
        due("others", x.mended(-1, 0, 1, 0), NONE);
        x.by(NONE);
        due("others", x.mended(0, 1, 0, 0), NONE);
        due("others", x.mended(0, 1, 1000, 0), NONE);
        due("others", x.mended(0, 1, 1, 4), NONE);
        due("others", x.mended(0, 1, 1, -1), NONE);
    }

    /** All that there may be, so that the last of each is used. */
    private static void full() {
        promise = 47;
        WordlessSigns x = told(12, 12);
        for (int i = 0; i < 12; i++) {
            for (int p = 0; p < 6; p++) {
                x.part(i, p % 5, i % 9, i % 4);
                x.part(12 + i, p % 5, i % 9, i % 4);
            }
            x.part(i, 4, (i + 4) % 9, i % 4);
            x.part(12 + i, 4, (i + 4) % 9, i % 4);
            x.means(i, 12 + i, false);
            x.hang(i);
            x.stock(i % 5, 2, i % 4);
            x.candidate(i % 6, i);
        }
        for (int land = 0; land < 6; land++) {
            x.land(land, 99, 4095);
        }
        due("parts of the last drawing", x.about(31), 6);
        due("parts of the last thing", x.about(43), 6);
        due("behind the last", x.about(44), NONE);
        due("the list", x.about(5), 10);
        due("the row", x.about(6), 8);
        due("taken", x.taken(11, 5, 5), 23);
        due("among", x.among(7, 5, 5), 19);
        due("all right", x.odds(11, 5, 1), 594);
        due("least of all", x.least(4095, 0) > 0, true);
        due("anybody with all", x.anybody(11, 5, 12, 0), 0);
        due("anybody with one", x.anybody(11, 5, 1, 0), 1);
        due("best", x.best(4095, 5, 12), 0);
        for (int i = 0; i < 60; i++) {
            x.answer(5, 5, 11, 23);
        }
        due("minds", x.minds(5, 0, NONE), 2048);
        due("the last mind", x.minds(5, 0, 2047), 4095);
        due("knows", x.knows(5, 0, 23), 2);
        due("knows", x.knows(5, 0, 22), 1);
        due("parts", x.parts(5, 5, 1) > 1, true);
        due("worn", x.worn(11, 5, 6, 1), 63);
        due("mended", x.mended(11, 10, 1, 0), 0);
        due("made", x.made(11, 5, 0) >= 0, true);
        due("choice", x.choice(5) == 5 || x.choice(5) == 11, true);
    }

    private static void imageAndAbout() {
        promise = 45;
        WordlessSigns x = corners(2);
        x.days(7);
        x.hang(0);
        x.stock(0, 0, 0);
        x.candidate(0, 0);
        x.candidate(1, 1);
        x.answer(0, 0, 0, 12);
        x.land(0, 5, 3);
        x.lean(0, 12, 1);
        x.group(12, 1);
        x.teach(0, 0);
        read(x, "harm 2;");
        x.by(0);
        due("image()", x.image(), 7);

        promise = 46;
        x.days(7);
        x.look(false);
        x.look(true);
        x.clear(0);
        x.colour(12, 3);
        x.means(0, NONE, true);
        x.weights(9, 9, 9, 9);
        x.land(0, 50, 0);
        x.lean(0, 12, 9);
        x.rules(0, 0, 1, 0);
        read(x, "harm 3;");
        x.by(1);
        x.hang(1);
        x.stock(1, 0, 0);
        x.candidate(2, 0);
        x.group(12, 2);
        x.teach(0, 0);
        x.answer(0, 0, 0, NONE);
        feed(x, "harm");
        due("a fault stays", x.fault(0), 0);
        due("back()", x.back(), 7);
        due("the clock", x.about(0), 7);
        due("drawings", x.about(1), 2);
        due("things", x.about(2), 2);
        due("grammars", x.about(3), 1);
        due("THE GRAMMAR", x.about(4), 0);
        due("the list", x.about(5), 1);
        due("the row", x.about(6), 1);
        due("answers", x.about(7), 1);
        due("the tape is no part of it", x.about(8), 4);
        due("parts", x.about(20), 1);
        due("weights, places, colours", x.far(0, 13), 4);
        due("shares", x.odds(0, 0, 2), 5);
        due("readings", x.right(0, 0, 0), 1);
        due("colours", x.far(0, 12), 0);
        due("the grammar's text", x.harm(1, 1, 0), 2);
        due("memory and TEACH", x.teach(0, 0), 800);
        due("minds", x.minds(0, 7, NONE), 2);
        due("candidates", x.choice(2), NONE);
        x.unhang();
        x.hang(1);
        x.group(12, 3);
        x.back();
        due("the row as it was", x.among(0, 0, 0), 12);
        x.unhang();
        x.hang(0);
        x.hang(1);
        x.lean(0, 12, 0);
        x.rules(12, 9, 400, 100);
        x.image();
        due("12 is helped by itself ahead", x.among(1, 0, 0), 12);
        x.group(12, 0);
        due("and not without a group", x.among(1, 0, 0), 13);
        x.back();
        due("groups as they were", x.among(1, 0, 0), 12);
        due("the tape is read", x.grammar(), NONE);
        due("its fault", x.fault(0), 1);
        x.back();
        due("the fault is no part of it", x.fault(0), 1);
        due("its place", x.fault(1), 4);
        due("the image stays: memory", x.teach(0, 0), 800);
        due("a grammar anew", read(x, "harm 9;"), 1);
        x.by(1);
        due("by it", x.harm(1, 1, 0), 9);
        x.image();
        x.by(0);
        x.back();
        due("the latest image", x.about(4), 1);
        due("its text", x.harm(1, 1, 0), 9);

        full();

        promise = 47;
        due("parts of a thing", x.about(32), 1);
        due("untold", x.about(22), NONE);
        due("untold", x.about(34), NONE);
        due("others", x.about(9), NONE);
        due("others", x.about(19), NONE);
        due("others", x.about(44), NONE);
        due("others", x.about(-1), NONE);
        for (int v : WRONG) {
            due("wrong ones", x.about(v), NONE);
        }
    }
}
