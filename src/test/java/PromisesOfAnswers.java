/** The sentences of promises 39 to 47. */
final class PromisesOfAnswers extends Sentences {
    private static final int[] NO_SITES = {LEAST, -1, 6, MOST};
    private static final int[] NO_LANDS = {LEAST, -1, 6, MOST};
    private static final int[] NO_DAYS = {LEAST, -1, 1000, MOST};
    // Where drawings 0, 1 and things 12, 13 are told.
    private static final int[] NO_DRAWINGS = {LEAST, -1, 2, 11, 12, 24, MOST};

    @Says(promise = 39, value = "n DAYS go by (1 .. 99): the clock")
    static void daysFromOneToNinetyNine() {
        WordlessSigns x = new WordlessSigns();
        due("one", x.days(1), 1);
        due("ninety-nine", x.days(99), 100);
        due("the clock", x.about(0), 100);
    }

    @Says(promise = 39, value = "NONE for others")
    static void daysOfOthers() {
        WordlessSigns x = new WordlessSigns();
        x.days(50);
        for (int n : new int[] {LEAST, -50, -1, 0, 100, 949, MOST}) {
            due("days(" + n + ")", x.days(n), NONE);
        }
        due("none went by", x.about(0), 50);
    }

    @Says(promise = 39, value = "or beyond 999")
    static void daysBeyondTheLast() {
        WordlessSigns x = new WordlessSigns();
        for (int i = 1; i <= 10; i++) {
            due("days(99)", x.days(99), 99 * i);
        }
        due("1000", x.days(10), NONE);
        due("1089", x.days(99), NONE);
        due("it is 990", x.about(0), 990);
        due("999", x.days(9), 999);
        due("1000", x.days(1), NONE);
        due("it is 999", x.about(0), 999);
    }

    @Says(promise = 40, value = "An ANSWER (thing NONE: nothing): how many there are")
    static void answersOfThingsAndOfNothing() {
        WordlessSigns x = corners(2);
        due("nothing", x.answer(0, 0, 0, NONE), 1);
        due("none is known", x.minds(0, 0, NONE), 1);
        due("the last of all", x.answer(5, 5, 1, 13), 2);
        due("13 is known in 5", x.knows(5, 0, 13), 2);
        due("one that can't be is kept all the same", x.answer(5, 5, 1, NONE), 3);
        due("there is no mind", x.minds(5, 0, NONE), 0);
        x.lean(5, 13, 9);
        x.answer(4, 5, 0, 13);
        due("at its site 13 is nearer, so 12 may be known", x.knows(4, 0, 12), 1);
        x.answer(3, 4, 0, 13);
        due("at another it is not", x.knows(3, 0, 12), 0);
        due("about", x.about(7), 5);
    }

    @Says(promise = 40, value = "NONE for others")
    static void answerOfOthers() {
        WordlessSigns x = corners(2);
        for (int land : NO_LANDS) {
            due("land " + land, x.answer(land, 0, 0, 12), NONE);
        }
        for (int site : NO_SITES) {
            due("site " + site, x.answer(0, site, 0, 12), NONE);
        }
        for (int drawing : NO_DRAWINGS) {
            due("drawing " + drawing, x.answer(0, 0, drawing, 12), NONE);
        }
        for (int thing : new int[] {LEAST, -2, 0, 1, 11, 14, 23, 24, MOST}) {
            due("thing " + thing, x.answer(0, 0, 0, thing), NONE);
        }
        due("none came", x.about(7), 0);
        due("none counts", x.minds(0, 0, NONE), 4);
    }

    @Says(promise = 40, value = "or if there are 60")
    static void answerWhereThereAreSixty() {
        WordlessSigns x = corners(2);
        for (int i = 1; i <= 60; i++) {
            due("answer", x.answer(i % 6, 0, 0, 12), i);
        }
        due("the 61st", x.answer(0, 0, 1, NONE), NONE);
        due("it is none of them", x.minds(0, 0, NONE), 2);
        due("60", x.about(7), 60);
        x.back();
        x.look(false);
        due("behind back there is room", x.answer(0, 0, 0, NONE), 1);
    }

    @Says(promise = 41, value = "MINDS as KNOWN (0 .. 999): how many (i NONE), the i-th")
    static void mindsOfTheFirstAndTheLastDay() {
        WordlessSigns x = corners(3);
        x.answer(0, 0, 0, 12);
        x.days(1);
        x.answer(0, 0, 1, 12);
        due("day 0", x.minds(0, 0, NONE), 4);
        int[] first = {1, 3, 5, 7};
        for (int i = 0; i < 4; i++) {
            due("the " + i + "-th on day 0", x.minds(0, 0, i), first[i]);
        }
        due("day 999", x.minds(0, 999, NONE), 2);
        due("12 alone", x.minds(0, 999, 0), 1);
        due("with 14", x.minds(0, 999, 1), 5);
    }

    @Says(promise = 41, value = "NONE if there is none such")
    static void mindsThatAreNot() {
        WordlessSigns x = corners(2);
        for (int i : new int[] {4, 5, 4095, MOST}) {
            due("the " + i + "-th of 4", x.minds(0, 0, i), NONE);
        }
        x.answer(0, 0, 0, 12);
        due("the last of 2", x.minds(0, 0, 1), 3);
        due("the third of 2", x.minds(0, 0, 2), NONE);
        x.answer(0, 0, 0, NONE);
        due("there are none: 0 of them", x.minds(0, 0, NONE), 0);
        due("the first of none", x.minds(0, 0, 0), NONE);
    }

    @Says(promise = 41, value = "and for others")
    static void mindsOfOthers() {
        WordlessSigns x = corners(2);
        for (int land : NO_LANDS) {
            due("land " + land, x.minds(land, 0, NONE), NONE);
            due("land " + land, x.minds(land, 0, 0), NONE);
        }
        for (int day : NO_DAYS) {
            due("day " + day, x.minds(0, day, NONE), NONE);
            due("day " + day, x.minds(0, day, 0), NONE);
        }
        for (int i : new int[] {LEAST, -2}) {
            due("the " + i + "-th", x.minds(0, 0, i), NONE);
        }
    }

    @Says(promise = 42, value = "SURE, MAY BE, NOT (2, 1, 0; NOT if there are no MINDS)")
    static void knowsSureMayBeAndNot() {
        WordlessSigns x = corners(3);
        x.days(1);
        x.answer(5, 0, 0, 13);
        due("may be, the day ahead", x.knows(5, 0, 13), 1);
        due("sure", x.knows(5, 1, 13), 2);
        due("sure on the last day", x.knows(5, 999, 13), 2);
        due("not", x.knows(5, 1, 12), 0);
        due("may be", x.knows(5, 1, 14), 1);
        x.answer(5, 0, 1, 12);
        due("no minds: not", x.knows(5, 1, 13), 0);
        due("no minds: not", x.knows(5, 1, 14), 0);
        due("another land", x.knows(4, 1, 14), 1);
    }

    @Says(promise = 42, value = "NONE for others")
    static void knowsOfOthers() {
        WordlessSigns x = corners(2);
        for (int land : NO_LANDS) {
            due("land " + land, x.knows(land, 0, 12), NONE);
        }
        for (int day : NO_DAYS) {
            due("day " + day, x.knows(0, day, 12), NONE);
        }
        for (int thing : new int[] {LEAST, -1, 0, 1, 11, 14, 23, 24, MOST}) {
            due("thing " + thing, x.knows(0, 0, thing), NONE);
        }
        x.answer(0, 0, 0, 12);
        x.answer(0, 0, 0, NONE);
        due("without minds, too", x.knows(0, 0, 14), NONE);
    }

    @Says(promise = 43, value = "PARTS MOST: the DRAWING (what 0), for how many unlike things (1)")
    static void partsFromTwoToAll() {
        WordlessSigns x = told(12, 12);
        due("12 things and nothing", x.parts(5, 5, 1), 13);
        due("the lowest", x.parts(5, 5, 0), 0);
        x = corners(2);
        x.rules(0, 4, 400, 100);
        x.clear(0);
        due("13 or nothing", x.parts(0, 0, 1), 2);
        due("by drawing 1", x.parts(0, 0, 0), 1);
        x.lean(5, 12, 5);
        due("at site 5: 12, 13 or nothing", x.parts(0, 5, 1), 3);
    }

    @Says(promise = 43, value = "NONE: none, and for others")
    static void partsOfOthers() {
        WordlessSigns x = corners(2);
        for (int land : NO_LANDS) {
            due("land " + land, x.parts(land, 0, 0), NONE);
        }
        for (int site : NO_SITES) {
            due("site " + site, x.parts(0, site, 0), NONE);
        }
        for (int what : new int[] {LEAST, -1, 2, MOST}) {
            due("what " + what, x.parts(0, 0, what), NONE);
        }
        x.answer(0, 0, 0, 12);
        x.answer(0, 0, 1, 13);
        for (int what = 0; what < 2; what++) {
            due("one mind: none parts", x.parts(0, 0, what), NONE);
            due("another land", x.parts(1, 0, what), what == 0 ? 0 : 3);
        }
        x.answer(0, 0, 0, NONE);
        due("no minds: none", x.parts(0, 0, 0), NONE);
        due("no minds: none", x.parts(0, 0, 1), NONE);
    }

    @Says(promise = 44, value = "MENDED: 0 the PART, 1 0 a PLACE, 1 a WAY, 2 it goes, 2 which PLACE or WAY (NONE), 3 FAR then")
    static void mendedOfAllThreeSorts() {
        WordlessSigns x = told(2, 0);
        for (int i = 0; i < 6; i++) {
            x.part(0, 4, i, 3);
            x.part(1, 4, i, 3);
        }
        int[][] weights = {{2, 1, 5, 3}, {0, 1, 5, 3}, {0, 0, 5, 3}};
        // Where places cost, part 0 goes to the first free one; then where ways do, to way 0; then it goes.
        int[][] wants = {{0, 0, 6, 4}, {0, 1, 0, 1}, {0, 2, NONE, 5}};
        for (int i = 0; i < 3; i++) {
            x.weights(weights[i][0], weights[i][1], weights[i][2], weights[i][3]);
            for (int what = 0; what < 4; what++) {
                due("weights " + i + ", what " + what, x.mended(0, 1, 1, what), wants[i][what]);
            }
        }
        WordlessSigns y = told(2, 0);
        y.part(0, 0, 8, 3);
        y.part(0, 1, 8, 3);
        y.part(1, 0, 0, 0);
        y.part(1, 1, 8, 3);
        due("the second part", y.mended(0, 1, 9, 0), 1);
        due("a place", y.mended(0, 1, 9, 1), 0);
        due("place 0", y.mended(0, 1, 9, 2), 0);
        due("far then", y.mended(0, 1, 9, 3), 9);
        due("it goes", y.mended(0, 1, 10, 1), 2);
        due("which: none", y.mended(0, 1, 10, 2), NONE);
        due("far then", y.mended(0, 1, 10, 3), 10);
    }

    @Says(promise = 44, value = "NONE: none")
    static void mendedByNone() {
        WordlessSigns x = told(2, 0);
        x.part(1, 1, 0, 0);
        for (int what = 0; what < 4; what++) {
            due("the first has no parts", x.mended(0, 1, 1, what), NONE);
            due("none is 11 far", x.mended(1, 0, 11, what), NONE);
            due("none is 999 far", x.mended(1, 0, 999, what), NONE);
        }
        due("the other has none", x.mended(1, 0, 5, 0), 0);
        readBy(x, "must 1=2;");
        due("none is of the grammar", x.mended(1, 0, 1, 0), NONE);
    }

    @Says(promise = 44, value = "and for others (one and the same, too; D 1 .. 999)")
    static void mendedOfOthers() {
        WordlessSigns x = told(2, 2);
        for (int look : new int[] {0, 1, 12, 13}) {
            x.part(look, 1, 4, 0);
        }
        due("two drawings", x.mended(0, 1, 1, 0), 0);
        for (int drawing : NO_DRAWINGS) {
            due("one is " + drawing, x.mended(drawing, 1, 1, 0), NONE);
            due("the other is " + drawing, x.mended(0, drawing, 1, 0), NONE);
        }
        due("one and the same", x.mended(0, 0, 1, 0), NONE);
        due("one and the same", x.mended(1, 1, 1, 3), NONE);
        for (int d : new int[] {LEAST, -1, 0, 1000, MOST}) {
            due("by " + d, x.mended(0, 1, d, 0), NONE);
        }
        for (int what : new int[] {LEAST, -1, 4, MOST}) {
            due("what " + what, x.mended(0, 1, 1, what), NONE);
        }
        x.weights(99, 99, 99, 99);
        circles(x, 1, 3);
        x.colour(1, 1);
        x.clear(0);
        circles(x, 0, 1);
        for (int i = 0; i < 5; i++) {
            x.part(0, 2, i, 0);
        }
        // 4 - 1 circles and 5 bars are dropped and the tint counts; the circle gone is 99 more.
        due("990 is what can be", x.mended(0, 1, 990, 3), 990);
        due("999 is above what can be", x.mended(0, 1, 999, 3), NONE);
        x.part(1, 3, 0, 0);
        due("999 can be", x.mended(0, 1, 999, 3), 1089);
        due("1000 is too much to ask, though it can be", x.mended(0, 1, 1000, 3), NONE);
    }

    @Says(promise = 45, value = "THE IMAGE is as all is now: the clock")
    static void imageOfTheFirstAndTheLastDay() {
        WordlessSigns x = new WordlessSigns();
        due("day 0", x.image(), 0);
        for (int i = 0; i < 10; i++) {
            x.days(99);
        }
        due("day 990", x.image(), 990);
        x.days(9);
        due("day 999", x.image(), 999);
        due("the latest", x.back(), 999);
    }

    /** All that there is, in one row of answers; none of the calls changes anything. */
    private static String all(WordlessSigns x) {
        StringBuilder s = new StringBuilder();
        for (int what = 0; what < 8; what++) {
            s.append(x.about(what)).append(' ');
        }
        for (int look = 0; look < 24; look++) {
            s.append(x.about(20 + look)).append(' ').append(x.far(0, look)).append(' ');
        }
        for (int d = 0; d < 3; d++) {
            s.append(x.harm(d, 0, 0)).append(' ').append(x.odds(d, 1, 0)).append(' ').append(x.tellings(d, 1, 3)).append(' ');
            s.append(x.says(d, 0)).append(x.says(d, 1)).append(x.choice(d)).append(x.among(d, 0, 0)).append(' ');
            s.append(x.worn(d, 0, 1, 1)).append(' ').append(x.made(d, 0, 0)).append(' ').append(x.taken(d, 1, 1)).append(' ');
            s.append(x.minds(d, 0, NONE)).append(' ').append(x.minds(d, 999, NONE)).append(' ').append(x.right(d, 0, 0));
            s.append(' ').append(x.far(2, d)).append(' ').append(x.far(2, 12 + d)).append(' ');
        }
        return s.append(x.odds(0, 0, 2)).append(x.order(0, NONE)).append(x.best(7, 0, 1)).toString();
    }

    private static WordlessSigns rich() {
        WordlessSigns x = corners(3);
        x.means(2, 14, true);
        x.clear(2);
        x.part(2, 1, 6, 1);
        x.part(1, 2, 0, 0);
        x.colour(14, 2);
        x.land(0, 10, 7);
        x.land(1, 20, 6);
        x.lean(1, 13, 5);
        x.group(13, 1);
        x.group(14, 1);
        x.rules(12, 5, 300, 90);
        x.teach(0, 1);
        readBy(x, "not circles=2;must parts<4;harm 2+took;");
        x.stock(1, 0, 0);
        x.stock(1, 1, 1);
        x.candidate(0, 0);
        x.candidate(1, 1);
        x.hang(1);
        x.hang(0);
        x.days(3);
        x.answer(0, 0, 0, 12);
        return x;
    }

    @Says(promise = 46, value = "BACK to THE IMAGE (it stays): the clock")
    static void backFromEachChange() {
        String want = all(rich());
        for (int change = 0; change < 29; change++) {
            WordlessSigns x = rich();
            x.image();
            for (int i = 0; i < 2; i++) {
                change(x, change);
                due("change " + change + " is one", all(x).equals(want), false);
                due("back()", x.back(), 3);
                due("change " + change + " is undone, time " + i, all(x).equals(want), true);
            }
        }
    }

    private static void change(WordlessSigns x, int change) {
        switch (change) {
            case 0 -> x.look(false);
            case 1 -> x.look(true);
            case 2 -> x.part(0, 2, 2, 2);
            case 3 -> x.clear(12);
            case 4 -> x.colour(0, 1);
            case 5 -> x.means(0, 13, false);
            case 6 -> x.weights(1, 1, 5, 3);
            case 7 -> x.land(0, 11, 7);
            case 8 -> x.lean(1, 13, 0);
            case 9 -> x.rules(3, 5, 300, 90);
            case 10 -> x.by(NONE);
            case 11 -> read(x, "harm 1;");
            case 12 -> x.stock(1, 2, 0);
            case 13 -> x.made(1, 0, 2);
            case 14 -> x.candidate(2, 2);
            case 15 -> x.group(13, 0);
            case 16 -> x.hang(2);
            case 17 -> x.unhang();
            case 18 -> x.teach(0, 1);
            case 19 -> x.weeks(50);
            case 20 -> x.days(1);
            case 21 -> {
                x.unhang();
                x.hang(2);
                x.hang(2);
            }
            case 22 -> x.weights(2, 9, 5, 3);
            case 23 -> x.weights(2, 1, 5, 9);
            case 24 -> x.weights(2, 1, 9, 3);
            case 25 -> x.rules(12, 3, 300, 90);
            case 26 -> x.rules(12, 5, 100, 90);
            case 27 -> x.rules(12, 5, 300, 300);
            default -> x.answer(0, 0, 1, 13);
        }
    }

    @Says(promise = 46, value = "(it stays)")
    static void imageStaysAndIsNotChanged() {
        WordlessSigns x = corners(1);
        x.image();
        for (int i = 0; i < 3; i++) {
            x.part(0, 2, i, 0);
            x.days(1 + i);
            due("back()", x.back(), 0);
            due("parts", x.about(20), 1);
        }
        x.days(5);
        x.image();
        x.days(5);
        due("to the new one", x.back(), 5);
        due("to the new one again", x.back(), 5);
    }

    @Says(promise = 47, value = "0 the clock, 1 DRAWINGS, 2 THINGS, 3 GRAMMARS, 4 THE GRAMMAR (NONE), 5 PARTS of the list, 6 how many hang, 7 ANSWERS, 8 bytes of the tape")
    static void aboutFromEmptyToFull() {
        WordlessSigns x = new WordlessSigns();
        for (int what = 0; what <= 8; what++) {
            due("about(" + what + ") of an empty one", x.about(what), what == 4 ? NONE : 0);
        }
        x = told(12, 12);
        for (int i = 0; i < 60; i++) {
            x.answer(0, 0, 0, NONE);
            x.hang(0);
            x.stock(i % 5, i % 9, 0);
            x.days(i < 10 ? 99 : 9);
            read(x, "");
            x.by(3);
        }
        for (int i = 0; i < 16; i++) {
            x.feed(0, 0, 0, 0, 0);
        }
        int[] full = {999, 12, 12, 4, 3, 10, 8, 60, 300};
        for (int what = 0; what <= 8; what++) {
            due("about(" + what + ") of a full one", x.about(what), full[what]);
        }
    }

    @Says(promise = 47, value = "20 + look: PARTS of a LOOK that is told")
    static void aboutLooks() {
        WordlessSigns x = told(12, 12);
        for (int look = 0; look < 24; look++) {
            circles(x, look, look % 7);
            due("about look " + look, x.about(20 + look), look % 7);
        }
    }

    @Says(promise = 47, value = "NONE for others")
    static void aboutOthers() {
        WordlessSigns x = told(2, 2);
        for (int what : new int[] {LEAST, -1, 9, 12, 19, 22, 31, 34, 43, 44, 52, MOST}) {
            due("about(" + what + ")", x.about(what), NONE);
        }
        due("the last drawing", x.about(21), 0);
        due("the last thing", x.about(33), 0);
        due("behind the last look", told(12, 12).about(44), NONE);
    }
}
