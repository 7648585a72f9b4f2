/** The Terms, part IV: ANSWERS and MINDS, MENDED, AN IMAGE; and the constant. */
final class TermsOfAnswers extends Sentences {
    @Says("ANSWERS (60 at most): in a LAND at a SITE a DRAWING was TAKEN for a THING (or nothing)")
    static void sixtyAnswers() {
        WordlessSigns x = corners(2);
        for (int i = 1; i < 60; i++) {
            due("answer " + i, x.answer(0, 0, 0, NONE), i);
        }
        due("the 60th", x.answer(5, 5, 1, 13), 60);
        due("it counts", x.knows(5, 0, 13), 2);
        due("the 61st", x.answer(5, 5, 1, NONE), NONE);
        due("it does not count", x.knows(5, 0, 13), 2);
        due("60", x.about(7), 60);
    }

    @Says("TOLD on the clock's DAY (0 .. 999; at first 0)")
    static void answersOfTheFirstAndTheLastDay() {
        WordlessSigns x = corners(2);
        due("day 0", x.about(0), 0);
        x.answer(0, 0, 0, 12);
        for (int i = 0; i < 10; i++) {
            x.days(99);
        }
        due("day 999", x.days(9), 999);
        x.answer(0, 0, 1, 12);
        due("on day 0", x.knows(0, 0, 12), 2);
        due("13 may be", x.knows(0, 998, 13), 1);
        due("on day 999 it is not", x.knows(0, 999, 13), 0);
    }

    @Says("what LOOKS, LEANS, LIMIT are now counts")
    static void answersAreWeighedAsAllIsNow() {
        WordlessSigns x = corners(2);
        x.answer(0, 0, 0, 13);
        due("12 was nearer: it is not known", x.knows(0, 0, 12), 0);
        x.lean(0, 13, 5);
        due("by a lean 12 may be", x.knows(0, 0, 12), 1);
        x.lean(0, 13, 0);
        x.clear(0);
        due("by the drawing: 12 as near is lower, so not", x.knows(0, 0, 12), 0);
        x.part(0, 1, 2, 0);
        due("by the drawing: 13 is nearer", x.knows(0, 0, 12), 1);
        x.part(13, 2, 4, 0);
        due("by the thing: 5 against 4", x.knows(0, 0, 12), 0);
        x.rules(4, 4, 400, 100);
        due("by the limit: 13 is none of it", x.minds(0, 0, NONE), 0);
        x.rules(5, 4, 400, 100);
        due("at the limit", x.minds(0, 0, NONE), 1);
    }

    @Says("MINDS of a LAND as KNOWN on DAY k: sets of THINGS that are told, by which all ANSWERS of it TOLD on k or ahead are so")
    static void mindsAsKnownOnADay() {
        WordlessSigns x = told(1, 0);
        due("no things: the empty set", x.minds(0, 0, NONE), 1);
        due("the empty set", x.minds(0, 0, 0), 0);
        x = told(1, 12);
        due("all sets", x.minds(0, 0, NONE), 4096);
        due("the last", x.minds(0, 0, 4095), 4095);
        x = corners(3);
        x.days(5);
        x.answer(0, 0, 0, 12);
        x.days(5);
        x.answer(0, 0, 1, 13);
        due("day 4", x.minds(0, 4, NONE), 8);
        due("day 5", x.minds(0, 5, NONE), 4);
        due("day 9", x.minds(0, 9, NONE), 4);
        due("day 10", x.minds(0, 10, NONE), 2);
        due("rising", x.minds(0, 10, 0), 3);
        due("rising", x.minds(0, 10, 1), 7);
        due("another land", x.minds(1, 10, NONE), 8);
        x.answer(0, 0, 0, NONE);
        due("at odds", x.minds(0, 10, NONE), 0);
        x.look(true);
        due("a thing told later may be known", x.minds(0, 5, NONE), 8);
    }

    @Says("A THING is SURE (2): in all MINDS (there are some); MAY BE (1): in some; NOT (0)")
    static void surenessOfThings() {
        WordlessSigns x = corners(3);
        due("in some", x.knows(0, 0, 12), 1);
        x.answer(0, 0, 0, 13);
        due("in none", x.knows(0, 0, 12), 0);
        due("in all", x.knows(0, 0, 13), 2);
        due("in some", x.knows(0, 0, 14), 1);
        x.answer(0, 0, 0, NONE);
        for (int thing = 12; thing < 15; thing++) {
            due("there are no minds: " + thing, x.knows(0, 0, thing), 0);
        }
    }

    @Says("PARTS MOST: the DRAWING (at a SITE) by which MINDS (as KNOWN now) take it for most unlike things (or nothing)")
    static void partsMostOfAll() {
        WordlessSigns x = corners(4);
        x.rules(4, 4, 400, 100);
        due("four things and nothing", x.parts(0, 0, 1), 5);
        x.rules(3, 4, 400, 100);
        due("one thing and nothing", x.parts(0, 0, 1), 2);
        x.part(2, 2, 0, 0);
        x.lean(0, 14, 5);
        due("14 is near all but 2, too", x.parts(0, 0, 1), 3);
        x.lean(4, 12, 2);
        x.lean(4, 13, 2);
        due("at another site, by the leans there", x.parts(0, 4, 1), 4);
        x.days(1);
        x.answer(0, 0, 0, 12);
        due("as known now: 12 is sure, 14 is not", x.knows(0, 1, 14), 0);
    }

    @Says("of like ones the lowest; none, if all take it alike")
    static void partsMostOfLikeOnes() {
        WordlessSigns x = corners(3);
        due("all alike: the lowest", x.parts(0, 0, 0), 0);
        x.clear(0);
        x.rules(4, 4, 400, 100);
        due("0 is 5 far from all, so nothing to everybody", x.parts(0, 0, 0), 1);
        x.rules(0, 4, 400, 100);
        x.clear(1);
        x.clear(2);
        due("all take each for nothing", x.parts(0, 0, 0), NONE);
        due("for one thing alone", x.parts(0, 0, 1), NONE);
        due("without drawings", told(0, 3).parts(0, 0, 0), NONE);
        due("without things", told(3, 0).parts(0, 0, 0), NONE);
        WordlessSigns y = corners(1);
        y.answer(0, 0, 0, 12);
        due("one mind", y.parts(0, 0, 0), NONE);
        y.answer(0, 0, 0, NONE);
        due("no mind", y.parts(0, 0, 0), NONE);
    }

    private static void mended(WordlessSigns x, int d, int part, int change, int to, int far) {
        int[] want = {part, change, to, far};
        for (int what = 0; what < 4; what++) {
            due("mended by " + d + ", what " + what, x.mended(0, 1, d, what), want[what]);
        }
    }

    private static WordlessSigns two() {
        WordlessSigns x = told(2, 0);
        x.part(0, 1, 4, 1);
        x.part(1, 1, 4, 1);
        return x;
    }

    @Says("MENDED: to part two DRAWINGS by D: one change of one PART of the first one: its PLACE another, or its WAY another, or it goes")
    static void mendedByPlaceWayOrGoing() {
        WordlessSigns x = two();
        mended(x, 2, 0, 0, 0, 2);
        x.weights(1, 2, 5, 3);
        mended(x, 2, 0, 1, 0, 2);
        x.weights(1, 2, 3, 3);
        mended(x, 3, 0, 2, NONE, 3);
        mended(x, 4, NONE, NONE, NONE, NONE);
        due("it is not changed", x.far(0, 1), 0);
        mended(told(2, 0), 1, NONE, NONE, NONE, NONE);
    }

    @Says("its PLACE another, or its WAY another")
    static void mendedIsAnotherPlaceOrWay() {
        WordlessSigns x = told(2, 0);
        x.part(0, 1, 0, 0);
        x.part(1, 1, 8, 3);
        // As it is, it is 5 far; a change must be one even where none is needed.
        mended(x, 5, 0, 0, 1, 5);
        x.weights(0, 1, 5, 3);
        mended(x, 1, 0, 0, 1, 1);
        readBy(x, "must parts=1;");
        x.weights(0, 0, 99, 3);
        mended(x, 1, NONE, NONE, NONE, NONE);
    }

    @Says("by which FAR is D or more, it is of THE GRAMMAR and no two PARTS are alike")
    static void mendedStaysWithinTheRules() {
        WordlessSigns x = two();
        readBy(x, "must parts=0;");
        mended(x, 1, 0, 2, NONE, 5);
        mended(x, 5, 0, 2, NONE, 5);
        mended(x, 6, NONE, NONE, NONE, NONE);
        readBy(x, "must parts=2;");
        mended(x, 1, NONE, NONE, NONE, NONE);
        x.by(NONE);
        x.clear(0);
        x.part(0, 1, 0, 0);
        x.part(0, 1, 1, 0);
        x.clear(1);
        // Place 1 is taken, so the first that part 0 may go to is 2.
        mended(x, 1, 0, 0, 2, 10);
        x.weights(0, 1, 5, 3);
        x.part(1, 1, 0, 0);
        x.part(1, 1, 1, 0);
        mended(x, 1, 0, 1, 1, 1);
    }

    @Says("of these the first by PART, then PLACES rising, then WAYS rising, then going")
    static void firstOfTheMended() {
        WordlessSigns x = two();
        mended(x, 1, 0, 0, 0, 2);
        x.weights(0, 1, 1, 3);
        mended(x, 1, 0, 1, 0, 1);
        x.weights(0, 0, 1, 3);
        mended(x, 1, 0, 2, NONE, 1);
        x.weights(2, 1, 5, 3);
        x.part(0, 2, 8, 0);
        x.part(1, 2, 0, 0);
        // Part 0 can go to a place 2 further; part 1 is as far as can be, and comes later.
        mended(x, 6, 0, 0, 0, 6);
        x.part(0, 3, 0, 3);
        x.weights(0, 0, 0, 3);
        mended(x, 1, NONE, NONE, NONE, NONE);
        WordlessSigns y = told(2, 0);
        y.part(0, 0, 8, 0);
        y.part(0, 1, 0, 0);
        y.part(1, 0, 0, 0);
        y.part(1, 1, 0, 0);
        // Only the second part can be parted more; place 2 is the first that is two away.
        mended(y, 8, 1, 0, 2, 8);
        mended(y, 9, 1, 2, NONE, 9);
        mended(y, 10, NONE, NONE, NONE, NONE);
    }

    @Says("AN IMAGE: all as it is, but the tape and the latest FAULT")
    static void imageLeavesTapeAndFault() {
        WordlessSigns x = told(1, 0);
        feed(x, "harm 1;");
        x.image();
        x.end(4);
        x.back();
        due("the tape stays", x.about(8), 4);
        due("none was read", x.fault(0), NONE);
        due("it has a fault", x.grammar(), NONE);
        x.back();
        due("the fault stays", x.fault(0), 1);
        due("its place stays", x.fault(1), 4);
        due("the tape is empty", x.about(8), 0);
        feed(x, "harm 2;");
        x.back();
        due("the text stays", x.grammar(), 0);
        x.by(0);
        due("it is this text", x.harm(0, 0, 0), 2);
        x.back();
        due("read without a fault", x.fault(0), 0);
        due("the grammar is gone", x.about(3), 0);
    }

    @Says("BACK: all is so again")
    static void backTwiceFromOtherChanges() {
        WordlessSigns x = corners(2);
        x.land(0, 10, 3);
        x.image();
        for (int i = 0; i < 2; i++) {
            x.clear(0);
            x.land(0, 5 + i, 0);
            x.means(1, 12, true);
            x.back();
            due("shares", x.odds(0, 0, 2), 10);
            due("0 is right", x.right(0, 0, 0), 1);
            due("1 is right", x.right(1, 0, 0), 1);
        }
    }

    @Says("The constants: `NONE = -1`: None")
    static void noneIsMinusOne() {
        due("NONE", WordlessSigns.NONE, -1);
    }
}
