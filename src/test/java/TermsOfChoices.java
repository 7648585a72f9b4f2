/** The Terms, part III: harm and odds, MADE, sets, rows, WORN, MEMORY, anybody. */
final class TermsOfChoices extends Sentences {
    @Says("ALL HARM of a DRAWING at a SITE: of LANDS SHARE * HARM together")
    static void allHarmFromNothingToTheGreatest() {
        WordlessSigns x = corners(1);
        readBy(x, "harm 3+land+10*site;");
        due("no land has a share", x.odds(0, 0, 0), 0);
        x.land(0, 10, 0);
        x.land(5, 2, 0);
        x.land(3, 50, 1);
        due("two lands, one that reads it right", x.odds(0, 0, 0), 10 * 3 + 2 * 8);
        due("at another site", x.odds(0, 5, 0), 10 * 53 + 2 * 58);
        for (int land = 0; land < 6; land++) {
            x.land(land, 99, 0);
        }
        readBy(x, "harm 9999*9999;");
        due("the greatest", x.odds(0, 0, 0), 594000000);
    }

    @Says("ODDS: SHARES by which it is RIGHT, of all")
    static void oddsFromNoneToAll() {
        WordlessSigns x = corners(1);
        due("no shares", x.odds(0, 0, 1), 0);
        for (int land = 0; land < 6; land++) {
            x.land(land, 99, 0);
        }
        due("none right", x.odds(0, 0, 1), 0);
        due("of all", x.odds(0, 0, 2), 594);
        for (int land = 0; land < 6; land++) {
            x.land(land, 99, 1);
            due("right in " + (land + 1), x.odds(0, 0, 1), 99 * (land + 1));
        }
        due("of all", x.odds(0, 0, 2), 594);
    }

    /** Nine lines in the list and a thing of six of them, from that at place 'first' on, known in land 0. */
    private static WordlessSigns lines(int first) {
        WordlessSigns x = told(1, 1);
        for (int i = 0; i < 9; i++) {
            x.stock(0, i, 0);
        }
        for (int i = 0; i < 6; i++) {
            x.part(12, 0, (first + i) % 9, 0);
        }
        x.means(0, 12, false);
        x.land(0, 1, 1);
        x.rules(0, 4, 400, 100);
        return x;
    }

    @Says("MADE: of told PARTS (a list, 10 at most) all sets of up to 6 for a DRAWING")
    static void madeOfNoneToSix() {
        WordlessSigns x = told(1, 1);
        due("of an empty list the empty set", x.made(0, 0, 0), 0);
        x = lines(0);
        due("the first six", x.made(0, 0, 0), 63);
        due("six parts", x.made(0, 0, 2), 6);
        due("right then", x.odds(0, 0, 1), 1);
        due("the last six", lines(3).made(0, 0, 0), 0x1f8);
        x = lines(0);
        readBy(x, "must parts=6;");
        due("six", x.made(0, 0, 2), 6);
        readBy(x, "must parts=7;");
        due("no seven", x.made(0, 0, 0), NONE);
    }

    @Says("(a list, 10 at most)")
    static void tenthOfTheListIsUsed() {
        WordlessSigns x = lines(0);
        due("the tenth", x.stock(4, 8, 3), 10);
        due("no eleventh", x.stock(4, 8, 2), NONE);
        readBy(x, "must fills=1 and parts=1;");
        due("it alone", x.made(0, 0, 0), 512);
    }

    @Says("(its COLOUR, what it MEANS stay)")
    static void madeKeepsColourAndMeaning() {
        WordlessSigns x = lines(0);
        x.rules(3, 4, 400, 100);
        x.colour(0, 2);
        due("six", x.made(0, 0, 2), 6);
        due("the colour is as it was", x.far(0, 12), 3);
        readBy(x, "not colour=2 and means=0;");
        due("and what it means", x.says(0, 0), 1);
    }

    @Says("that is of THE GRAMMAR then")
    static void madeIsOfTheGrammar() {
        WordlessSigns x = lines(0);
        x.stock(1, 0, 0);
        readBy(x, "must circles=1;");
        due("with the circle, at the cost of harm", x.made(0, 0, 0), 512);
        due("all harm", x.made(0, 0, 1), 1);
        readBy(x, "must bars>0;");
        due("there is none", x.made(0, 0, 0), NONE);
        due("there is none", x.made(0, 0, 1), NONE);
        due("there is none", x.made(0, 0, 2), NONE);
    }

    @Says("that of least ALL HARM at a SITE")
    static void madeOfLeastHarm() {
        WordlessSigns x = lines(0);
        due("without harm", x.made(0, 0, 1), 0);
        x.lean(3, 12, 30);
        due("at another site nothing is needed", x.made(0, 3, 0), 0);
        due("without harm", x.made(0, 3, 1), 0);
        x.lean(3, 12, 25);
        due("one is needed", x.made(0, 3, 0), 1);
        x.land(0, 99, 0);
        due("where it is not known", x.made(0, 0, 1), 99);
    }

    @Says("of like ones of fewest PARTS, then the lowest set (bit i for the i-th of the list)")
    static void madeOfLikeOnes() {
        WordlessSigns x = told(1, 1);
        for (int i = 0; i < 4; i++) {
            x.stock(i, 0, 0);
        }
        due("fewest parts", x.made(0, 0, 0), 0);
        readBy(x, "must arrows=1 or lines+circles=2;");
        due("one part, though its set is higher", x.made(0, 0, 0), 8);
        readBy(x, "must lines=1 and arrows=1 or circles=1 and bars=1;");
        due("two against two: the lowest set", x.made(0, 0, 0), 6);
    }

    @Says("LEAST FAR: of two of it the least FAR (the lower one, then the other first)")
    static void leastFarOfLikePairs() {
        WordlessSigns x = told(12, 0);
        due("all alike: 0", x.least(4095, 0), 0);
        due("the lowest", x.least(4095, 1), 0);
        due("and the next", x.least(4095, 2), 1);
        due("the last two", x.least(0xc00, 1), 10);
        due("the last two", x.least(0xc00, 2), 11);
        x.part(0, 1, 0, 0);
        due("without the first", x.least(7, 1), 1);
        due("without the first", x.least(7, 2), 2);
        x.part(2, 1, 0, 0);
        due("0 with 2, ahead of 1 with 3", x.least(15, 1), 0);
        due("0 with 2, ahead of 1 with 3", x.least(15, 2), 2);
    }

    @Says("CANDIDATES: for each of up to 6 SLOTS up to 4 DRAWINGS")
    static void sixSlotsOfFour() {
        WordlessSigns x = told(5, 0);
        for (int slot = 0; slot < 6; slot++) {
            for (int d = 0; d < 4; d++) {
                due("slot " + slot, x.candidate(slot, d), d + 1);
            }
            due("the fifth of slot " + slot, x.candidate(slot, 4), NONE);
        }
        due("the seventh slot", x.candidate(6, 0), NONE);
        due("all choices are of like ones", x.choice(NONE), 0);
    }

    @Says("A CHOICE of one for each SLOT (told ones) by which LEAST FAR is greatest")
    static void choiceIsTheGreatest() {
        WordlessSigns x = corners(4);
        x.part(3, 2, 0, 0);
        x.candidate(0, 0);
        x.candidate(0, 1);
        x.candidate(5, 1);
        x.candidate(5, 3);
        due("0 or 1 with 3: 9", x.choice(NONE), 9);
        due("the first", x.choice(0), 0);
        due("the last", x.choice(5), 3);
        for (int slot = 1; slot < 5; slot++) {
            due("slot " + slot + " is not told", x.choice(slot), NONE);
        }
    }

    @Says("of like ones the first by SLOTS, candidates as told")
    static void firstOfLikeChoices() {
        WordlessSigns x = corners(4);
        x.candidate(0, 3);
        x.candidate(0, 0);
        x.candidate(1, 2);
        x.candidate(1, 1);
        due("as told, not by number", x.choice(0), 3);
        due("as told, not by number", x.choice(1), 2);
        x.candidate(2, 2);
        due("the first slot stays, the second gives way", x.choice(0), 3);
        due("the first slot stays, the second gives way", x.choice(1), 1);
        due("the third", x.choice(2), 2);
    }

    @Says("BARS: with a bound D: the first SLOT s so that no choice for SLOTS 0 .. s has LEAST FAR of D or more")
    static void barsAtItsBounds() {
        WordlessSigns x = corners(4);
        due("no slot", x.bars(1), NONE);
        x.candidate(0, 0);
        due("one slot", x.bars(1), NONE);
        x.candidate(3, 1);
        due("4 far", x.bars(4), NONE);
        due("not 5", x.bars(5), 3);
        x.candidate(1, 0);
        due("0 twice", x.bars(1), 1);
        x.candidate(1, 2);
        due("one of two is enough", x.bars(4), NONE);
        x.candidate(5, 2);
        due("slot 5 takes the only one", x.bars(4), 5);
        x.candidate(5, 3);
        due("another will do", x.bars(4), NONE);
    }

    @Says("AMONG: DRAWINGS hung in a row (8 at most): in a LAND at a SITE the first one as alone")
    static void firstOfTheRowIsAlone() {
        WordlessSigns x = groups(5);
        x.hang(0);
        due("alone", x.among(0, 0, 0), 12);
        for (int i = 1; i < 8; i++) {
            x.hang(2);
        }
        due("not helped by what hangs behind it", x.among(0, 0, 0), 12);
        due("the second", x.among(1, 0, 0), 14);
        due("the eighth", x.among(7, 0, 0), 14);
        due("there is no ninth", x.hang(0), NONE);
    }

    /**
     * Corners known in land 0, the last with a bar, so that nothing turns it; 13 and 14 are of one group: beside a 14 a
     * drawing 0 is 13, if HELP is above 4.
     */
    private static WordlessSigns groups(int help) {
        WordlessSigns x = corners(4);
        x.clear(3);
        x.part(3, 2, 8, 0);
        x.clear(15);
        x.part(15, 2, 8, 0);
        x.land(0, 1, 15);
        x.rules(12, help, 400, 100);
        x.group(13, 2);
        x.group(14, 2);
        return x;
    }

    private static void hang(WordlessSigns x, int... row) {
        x.unhang();
        for (int d : row) {
            x.hang(d);
        }
    }

    @Says("behind it LEAN of a THING is HELP (0 .. 99; at first 4) more")
    static void helpAtItsEdges() {
        WordlessSigns x = groups(4);
        hang(x, 2, 0);
        due("4 makes them alike: the lowest", x.among(1, 0, 0), 12);
        x.rules(12, 5, 400, 100);
        due("5 turns it", x.among(1, 0, 0), 13);
        x.rules(12, 99, 400, 100);
        due("99 turns it", x.among(1, 0, 0), 13);
        x.rules(12, 0, 400, 100);
        due("0 is none", x.among(1, 0, 0), 12);
        WordlessSigns y = corners(2);
        y.land(0, 1, 3);
        y.group(13, 1);
        hang(y, 1, 0);
        due("4 at first: alike", y.among(1, 0, 0), 12);
        y.lean(0, 13, 1);
        due("with a lean of 1 besides", y.among(1, 0, 0), 13);
        y.lean(0, 13, 0);
        y.land(1, 1, 2);
        y.rules(0, 4, 400, 100);
        due("alone it is nothing", y.taken(0, 1, 0), NONE);
        due("HELP counts against LIMIT too", y.among(1, 1, 0), 13);
        y.rules(0, 3, 400, 100);
        due("3 is not enough", y.among(1, 1, 0), NONE);
    }

    @Says("if a neighbour (ahead, as it was TAKEN; behind it: what it is TAKEN for alone) was TAKEN for a THING of one GROUP")
    static void neighboursAtBothSides() {
        WordlessSigns x = groups(5);
        hang(x, 2, 0);
        due("ahead", x.among(1, 0, 0), 13);
        hang(x, 3, 0, 2);
        due("behind", x.among(1, 0, 0), 13);
        hang(x, 3, 0, 3, 2);
        due("the next but one is no neighbour", x.among(1, 0, 0), 12);
        hang(x, 2, 3, 0);
        due("the last but one is no neighbour", x.among(2, 0, 0), 12);
        hang(x, 2, 0, 0);
        due("ahead as it was taken: 13", x.among(2, 0, 0), 13);
        hang(x, 3, 0, 0, 2);
        due("behind as it is taken alone: 12, of no group", x.among(1, 0, 0), 12);
        due("which itself is 13", x.among(2, 0, 0), 13);
        hang(x, 2, 0, 2);
        x.rules(12, 3, 400, 100);
        due("two neighbours help once", x.among(1, 0, 0), 12);
        x.rules(12, 5, 400, 100);
        hang(x, 2, 0);
        due("a neighbour taken for nothing helps none", x.among(1, 1, 0), NONE);
        for (int group = 1; group < 6; group++) {
            WordlessSigns y = corners(2);
            y.land(0, 1, 3);
            y.rules(4, 99, 400, 100);
            y.clear(1);
            y.group(13, group);
            hang(y, 1, 0, 1);
            due("1 is nothing", y.among(0, 0, 0), NONE);
            due("nor does it help a thing of group " + group, y.among(1, 0, 0), 12);
        }
    }

    @Says("GROUP (told of THINGS, 0 .. 5; at first 0: no GROUP)")
    static void groupZeroIsNone() {
        WordlessSigns x = corners(4);
        x.land(0, 1, 15);
        x.rules(12, 99, 400, 100);
        hang(x, 2, 0);
        due("at first", x.among(1, 0, 0), 12);
        x.group(13, 5);
        due("the one alone", x.among(1, 0, 0), 12);
        x.group(14, 5);
        due("both of 5", x.among(1, 0, 0), 13);
        x.group(14, 1);
        due("one of 1", x.among(1, 0, 0), 14);
        x.group(13, 0);
        x.group(14, 0);
        due("both of 0", x.among(1, 0, 0), 12);
    }

    @Says("BEST ORDER of a row (6 at most): that by which SHARES of RIGHT ones over all together are greatest")
    static void orderOfOneToSix() {
        WordlessSigns x = groups(5);
        x.land(0, 99, 15);
        x.land(1, 7, 15);
        hang(x, 0);
        due("one", x.order(0, NONE), 106);
        due("one", x.order(0, 0), 0);
        hang(x, 2, 0);
        due("0 first is not turned", x.order(0, 0), 0);
        due("then 2", x.order(0, 1), 2);
        due("both right in both", x.order(0, NONE), 212);
        hang(x, 3, 3, 3, 3, 3, 3);
        due("six", x.order(0, NONE), 6 * 106);
        for (int i = 0; i < 6; i++) {
            due("the " + i + "-th", x.order(0, i), 3);
        }
        x.hang(3);
        due("seven", x.order(0, NONE), NONE);
        due("seven", x.order(0, 0), NONE);
        hang(x, 2, 2, 2, 2, 2, 0);
        due("the last comes first", x.order(0, 0), 0);
        due("all right", x.order(0, NONE), 6 * 106);
    }

    @Says("of like ones the first (orders of the row as told, the first place's earliest first)")
    static void firstOfLikeOrders() {
        WordlessSigns x = corners(4);
        hang(x, 3, 1, 2, 0);
        due("none is right", x.order(0, NONE), 0);
        int[] row = {3, 1, 2, 0};
        for (int i = 0; i < 4; i++) {
            due("as told: " + i, x.order(0, i), row[i]);
        }
        x = groups(5);
        // 0 turns beside a 2 unless it is the first: 3 can't be; 2 3 0, 0 3 2 and 0 2 3 are alike.
        hang(x, 3, 2, 0);
        due("all three", x.order(0, NONE), 3);
        due("the first place", x.order(0, 0), 2);
        due("the second", x.order(0, 1), 3);
        due("the third", x.order(0, 2), 0);
    }

    @Says("WORN by n: each set of n PARTS that a DRAWING has is lost")
    static void wornByNoneToSix() {
        WordlessSigns x = told(1, 1);
        circles(x, 0, 6);
        circles(x, 12, 6);
        x.means(0, 12, false);
        x.land(0, 9, 1);
        x.rules(29, 4, 400, 100);
        for (int n = 0; n < 6; n++) {
            due("shares without " + n, x.worn(0, 0, n, 0), 9);
            due("set of " + n, x.worn(0, 0, n, 1), (1 << n) - 1);
        }
        due("without all 30 far", x.worn(0, 0, 6, 0), 0);
        due("all", x.worn(0, 0, 6, 1), 63);
        due("no seven", x.worn(0, 0, 7, 0), NONE);
        due("nothing is lost in truth", x.about(20), 6);
    }

    @Says("WORST: the least SHARES by which it is RIGHT at a SITE, of all such sets")
    static void wornToTheWorst() {
        WordlessSigns x = worn();
        due("without the line", x.worn(0, 0, 1, 0), 6);
        due("at another site", x.worn(0, 1, 1, 0), 11);
        readBy(x, "not parts=1;");
        due("the grammar looks at what is left", x.worn(0, 0, 1, 0), 0);
    }

    /** A circle and a line; the circle alone is thing 13, where that is known: in land 0, of 5. Site 1 leans to 12. */
    private static WordlessSigns worn() {
        WordlessSigns x = told(1, 2);
        x.part(12, 0, 0, 0);
        x.part(12, 1, 4, 0);
        x.part(13, 1, 4, 0);
        x.part(0, 1, 4, 0);
        x.part(0, 0, 0, 0);
        x.means(0, 12, false);
        x.land(0, 5, 3);
        x.land(1, 6, 1);
        x.lean(1, 12, 5);
        return x;
    }

    @Says("of like ones the first set (as bits of its PARTS, in their order)")
    static void firstOfLikeWornSets() {
        WordlessSigns x = worn();
        due("the second part is bit 1", x.worn(0, 0, 1, 1), 2);
        x.rules(1, 4, 400, 100);
        due("either: the first", x.worn(0, 0, 1, 1), 1);
        WordlessSigns y = told(1, 1);
        circles(y, 0, 4);
        due("two of four", y.worn(0, 0, 2, 1), 3);
        // Lost parts 0 and 3 (9) leave two circles; so does 1 and 2 (6), which is lower as bits.
        WordlessSigns z = told(1, 1);
        int[] kinds = {0, 1, 2, 3};
        for (int kind : kinds) {
            z.part(0, kind, 0, 0);
        }
        z.means(0, 12, false);
        z.land(0, 1, 1);
        z.rules(999, 4, 400, 100);
        readBy(z, "not circles+bars=0 or lines+arrows=0;");
        due("lines and arrows are bits 0 and 3, circles and bars 1 and 2", z.worn(0, 0, 2, 1), 6);
    }

    @Says("LEARNT: a DRAWING in a LAND has MEMORY (0 .. 1000; at first 0)")
    static void memoryIsZeroAtFirst() {
        WordlessSigns x = told(12, 0);
        x.rules(12, 4, 1, 100);
        for (int land = 0; land < 6; land++) {
            due("drawing 0 in land " + land, x.teach(0, land), 1);
            due("drawing 11 in land " + land, x.teach(11, land), 1);
        }
        x.rules(12, 4, 1000, 100);
        due("1000", x.teach(1, 0), 1000);
        due("in this land alone", x.teach(1, 1), 1000);
    }

    @Says("TOLD there: MEMORY is TEACH (1 .. 1000; at first 400) more, 1000 at most")
    static void memoryIsAThousandAtMost() {
        WordlessSigns x = told(1, 0);
        due("400 at first", x.teach(0, 0), 400);
        due("800", x.teach(0, 0), 800);
        due("no more than 1000", x.teach(0, 0), 1000);
        due("it stays", x.teach(0, 0), 1000);
        x.rules(12, 4, 999, 0);
        due("999", x.teach(0, 1), 999);
        x.rules(12, 4, 1, 0);
        due("1000", x.teach(0, 1), 1000);
        due("1000", x.teach(0, 1), 1000);
        due("teach 0", x.rules(12, 4, 0, 0), false);
        due("teach 1001", x.rules(12, 4, 1001, 0), false);
    }

    @Says("A WEEK goes by: MEMORY is its thousandth * FADE (0 .. 1000; at first 100) less, cut")
    static void fadingIsCut() {
        int[][] cases = {{400, 100, 360}, {9, 100, 9}, {10, 100, 9}, {19, 100, 18}, {999, 1, 999}, {1000, 1, 999},
            {1000, 1000, 0}, {1, 1000, 0}, {1, 999, 1}, {1000, 0, 1000}, {555, 100, 500}, {1000, 999, 1}};
        for (int[] c : cases) {
            WordlessSigns x = told(1, 0);
            x.rules(12, 4, c[0], c[1]);
            x.teach(0, 0);
            x.weeks(1);
            x.rules(12, 4, 1, 100);
            due(c[0] + " by a fade of " + c[1], x.teach(0, 0), Math.min(1000, c[2] + 1));
        }
        WordlessSigns x = told(1, 0);
        x.teach(0, 0);
        x.teach(0, 0);
        x.teach(0, 0);
        x.weeks(1);
        x.rules(12, 4, 1, 100);
        due("1000 by the fade at first", x.teach(0, 0), 901);
    }

    @Says("From 500 on it is RIGHT whatever it is TAKEN for")
    static void rightFromFiveHundredOn() {
        WordlessSigns x = corners(2);
        x.land(0, 10, 2);
        x.rules(12, 4, 499, 0);
        x.teach(0, 0);
        due("499", x.right(0, 0, 0), 0);
        due("499, harm", x.harm(0, 0, 0), 1);
        x.rules(12, 4, 1, 0);
        x.teach(0, 0);
        due("500", x.right(0, 0, 0), 1);
        due("500, harm", x.harm(0, 0, 0), 0);
        due("all harm", x.odds(0, 0, 0), 0);
        due("shares", x.odds(0, 0, 1), 10);
        due("it is taken for the other all the same", x.taken(0, 0, 0), 13);
        due("in another land", x.right(0, 1, 0), 0);
        due("another drawing there", x.right(1, 1, 0), 0);
        x.land(0, 10, 0);
        due("taken for nothing", x.right(0, 0, 0), 1);
        x.means(0, NONE, false);
        due("means none", x.right(0, 0, 0), 1);
        readBy(x, "not 1=1;");
        due("read as not", x.right(0, 0, 0), 1);
    }

    @Says("TELLINGS for n weeks: the fewest TOLD now, one behind the other, by which MEMORY is 500 or more behind n weeks (100 at most)")
    static void tellingsFromNoneToAHundred() {
        WordlessSigns x = told(1, 0);
        x.rules(12, 4, 5, 0);
        due("a hundred", x.tellings(0, 0, 0), 100);
        due("a hundred for 50 weeks", x.tellings(0, 0, 50), 100);
        x.rules(12, 4, 4, 0);
        due("a hundred are 400", x.tellings(0, 0, 0), NONE);
        x.rules(12, 4, 96, 0);
        x.teach(0, 1);
        x.rules(12, 4, 4, 0);
        due("101 would do", x.tellings(0, 1, 0), NONE);
        x.teach(0, 1);
        due("a hundred", x.tellings(0, 1, 0), 100);
        x.rules(12, 4, 500, 0);
        due("one", x.tellings(0, 0, 0), 1);
        x.rules(12, 4, 499, 0);
        due("two", x.tellings(0, 0, 0), 2);
        x.teach(0, 0);
        due("one more", x.tellings(0, 0, 0), 1);
        x.teach(0, 0);
        due("none", x.tellings(0, 0, 0), 0);
        x.rules(12, 4, 1000, 500);
        due("1000 in a week is 500", x.tellings(0, 0, 1), 1);
        due("and never more in two", x.tellings(0, 0, 2), NONE);
        x.rules(12, 4, 1000, 501);
        due("499", x.tellings(0, 0, 1), NONE);
    }

    @Says("FOR ANYBODY: of all sets of k THINGS of those that are told (told ones: as many as there are) as KNOWN")
    static void anybodyKnowsNoneToAll() {
        WordlessSigns x = told(1, 0);
        due("no things: who knows none", x.anybody(0, 0, 0, 0), 1);
        due("the empty set", x.anybody(0, 0, 0, 1), 0);
        due("one is more than there are", x.anybody(0, 0, 1, 0), NONE);
        x = corners(4);
        for (int k = 0; k < 4; k++) {
            due("who knows " + k, x.anybody(0, 0, k, 0), 1);
            due("12 is not among them", x.anybody(0, 0, k, 1), ((1 << k) - 1) << (k == 0 ? 0 : 1));
        }
        due("who knows all", x.anybody(0, 0, 4, 0), 0);
        due("all", x.anybody(0, 0, 4, 1), 15);
        due("five", x.anybody(0, 0, 5, 0), NONE);
        x = told(1, 12);
        due("12 of 12", x.anybody(0, 0, 12, 1), 4095);
        due("13 of 12", x.anybody(0, 0, 13, 1), NONE);
    }

    @Says("WORST HARM of a DRAWING at a SITE (LAND told as -1 in harm): the greatest HARM; the first set of it (as bits, rising)")
    static void worstForAnybody() {
        WordlessSigns x = corners(3);
        readBy(x, "harm 10-land+took+100*site;");
        due("nothing is taken, land is -1", x.anybody(0, 0, 0, 0), 10);
        due("the worst is 14", x.anybody(0, 0, 1, 0), 13);
        due("that is bit 2", x.anybody(0, 0, 1, 1), 4);
        due("at site 5", x.anybody(0, 5, 1, 0), 513);
        readBy(x, "harm 3;");
        due("13 as bad as 14: the first", x.anybody(0, 0, 1, 1), 2);
        due("right with 12: the rising first with harm", x.anybody(0, 0, 2, 1), 6);
        readBy(x, "harm 0;");
        due("no harm at all: the first set", x.anybody(0, 0, 2, 1), 3);
        due("no harm at all", x.anybody(0, 0, 2, 0), 0);
        WordlessSigns y = told(1, 12);
        readBy(y, "harm took;");
        due("of 12 the last", y.anybody(0, 0, 1, 0), 11);
        due("of 12 the last", y.anybody(0, 0, 1, 1), 2048);
        x.by(NONE);
        for (int land = 0; land < 6; land++) {
            x.land(land, 99, 7);
            x.teach(0, land);
            x.teach(0, land);
        }
        due("no land's memory counts", x.anybody(0, 0, 1, 0), 1);
    }

    @Says("BEST FOR ANYBODY: of a SET of DRAWINGS that of the least WORST HARM; of like ones the lowest")
    static void bestForAnybodyOfLikeOnes() {
        WordlessSigns x = corners(3);
        due("all alike", x.best(7, 0, 1), 0);
        due("without the first", x.best(6, 0, 1), 1);
        due("the last alone", x.best(4, 0, 1), 2);
        x.means(0, NONE, false);
        due("0 is harm with all known", x.best(7, 0, 3), 1);
        due("0 alone", x.best(1, 0, 3), 0);
        x.means(1, NONE, false);
        due("1, too", x.best(7, 0, 3), 2);
        due("0 and 1 are alike", x.best(3, 0, 3), 0);
        due("of none", x.best(0, 0, 3), NONE);
    }
}
