/** A class of tests that each hold some words of the document: objects to begin with, texts, the count of wrong answers. */
abstract class Sentences {
    static final int NONE = WordlessSigns.NONE;
    static final int LEAST = Integer.MIN_VALUE;
    static final int MOST = Integer.MAX_VALUE;
    private static final int[] CORNERS = {0, 2, 6, 8};

    static int wrong;
    static String test = "";

    static void due(String what, long got, long want) {
        if (got != want) {
            wrong++;
            System.out.println(test + ": " + what + " answered " + got + ", due is " + want);
        }
    }

    static void due(String what, boolean got, boolean want) {
        due(what, got ? 1 : 0, want ? 1 : 0);
    }

    static WordlessSigns told(int drawings, int things) {
        WordlessSigns x = new WordlessSigns();
        for (int i = 0; i < drawings; i++) {
            x.look(false);
        }
        for (int i = 0; i < things; i++) {
            x.look(true);
        }
        return x;
    }

    /** Up to 4 drawings of a circle in a corner each, with things that look so and are what they mean: 4 apart. */
    static WordlessSigns corners(int count) {
        WordlessSigns x = told(count, count);
        for (int i = 0; i < count; i++) {
            x.part(i, 1, CORNERS[i], 0);
            x.part(12 + i, 1, CORNERS[i], 0);
            x.means(i, 12 + i, false);
        }
        return x;
    }

    /** As many circles as told, each in another place, in rows from the first place on. */
    static void circles(WordlessSigns x, int look, int count) {
        for (int i = 0; i < count; i++) {
            x.part(look, 1, i, 0);
        }
    }

    /** The tape is this text. */
    static void feed(WordlessSigns x, String text) {
        x.end(0);
        for (int from = 0; from < text.length(); from += 20) {
            int[] words = new int[5];
            for (int i = 0; i < 20; i++) {
                words[i / 4] = words[i / 4] << 8 | (from + i < text.length() ? text.charAt(from + i) : 0);
            }
            x.feed(words[0], words[1], words[2], words[3], words[4]);
        }
        x.end(text.length());
    }

    static int read(WordlessSigns x, String text) {
        feed(x, text);
        return x.grammar();
    }

    /** THE GRAMMAR is this text. */
    static void readBy(WordlessSigns x, String text) {
        int number = read(x, text);
        due("grammar() of " + text + " is one", number >= 0, true);
        due("by(" + number + ")", x.by(number), true);
    }

    /** The text has this FAULT at this place (0, NONE: none). */
    static void fault(String text, int number, int place) {
        WordlessSigns x = new WordlessSigns();
        due("grammar() of '" + text + "'", read(x, text), number == 0 ? 0 : NONE);
        due("fault(0) of '" + text + "'", x.fault(0), number);
        due("fault(1) of '" + text + "'", x.fault(1), place);
    }

    static void stands(String text) {
        fault(text, 0, NONE);
    }

    /** A drawing of two lines and a fill, colour 3, that means 13 and is taken for 12 in land 4 at site 2. */
    static WordlessSigns misread() {
        WordlessSigns x = told(1, 2);
        x.part(0, 0, 0, 0);
        x.part(0, 0, 1, 0);
        x.part(0, 4, 1, 0);
        x.colour(0, 3);
        x.means(0, 13, false);
        x.land(4, 1, 1);
        x.rules(999, 4, 400, 100);
        return x;
    }

    /** What the sum is as harm, 0 at least. */
    static void sum(String text, int want) {
        WordlessSigns x = misread();
        readBy(x, "harm " + text + ";");
        due("harm " + text, x.harm(0, 4, 2), want);
    }

    static void ask(String text, boolean want) {
        WordlessSigns x = misread();
        readBy(x, "not " + text + ";");
        due("not " + text, x.says(0, 0), want ? 1 : 0);
    }
}
