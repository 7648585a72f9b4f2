/** Edges where what another call left behind, or the last of a full row, could count by mistake. */
final class StaleAndFull extends Sentences {
    @Says(promise = 37, value = "FOR ANYBODY with k THINGS")
    static void anybodyLooksAtThisDrawing() {
        WordlessSigns x = corners(2);
        x.part(1, 2, 0, 0);
        readBy(x, "not bars=1;harm 10*parts+turned;");
        due("of 1", x.anybody(1, 0, 0, 0), 21);
        due("of 0, behind 1", x.anybody(0, 0, 0, 0), 10);
        due("of 1, behind 0", x.anybody(1, 0, 0, 0), 21);
    }

    @Says("(its COLOUR, what it MEANS stay)")
    static void madeLooksAtThisDrawing() {
        WordlessSigns x = corners(2);
        x.land(0, 1, 3);
        x.rules(0, 4, 400, 100);
        x.colour(1, 1);
        x.stock(1, 0, 0);
        x.stock(1, 2, 0);
        due("0 can be right", x.made(0, 0, 1), 0);
        due("1 can't, by its colour", x.made(1, 0, 1), 1);
        due("0 behind 1", x.made(0, 0, 0), 1);
        readBy(x, "not circles=1;");
        due("read as not it, whatever is made", x.made(0, 0, 1), 1);
        x.means(0, 12, true);
        due("and as it is meant", x.made(0, 0, 0), 1);
        due("without harm", x.made(0, 0, 1), 0);
    }

    @Says(promise = 23, value = "the DRAWING is that then")
    static void farOfWhatWasMade() {
        WordlessSigns x = corners(2);
        x.land(0, 1, 3);
        x.means(0, 13, false);
        x.stock(1, 2, 0);
        due("ahead", x.far(0, 13), 4);
        due("ahead", x.far(0, 1), 4);
        due("drawn", x.made(0, 0, 2), 1);
        due("then", x.far(0, 13), 0);
        due("then", x.far(1, 0), 0);
    }

    @Says("that by which SHARES of RIGHT ones over all together are greatest")
    static void orderLooksAtEachDrawing() {
        WordlessSigns x = corners(2);
        x.land(0, 3, 3);
        x.part(1, 2, 0, 0);
        readBy(x, "not bars=1;");
        x.hang(0);
        x.hang(1);
        due("0 alone is right", x.order(0, NONE), 3);
        x.means(1, 13, true);
        due("both", x.order(0, NONE), 6);
        x.says(1, 0);
        due("both again", x.order(0, NONE), 6);
    }

    @Says("if a neighbour (ahead, as it was TAKEN; behind it: what it is TAKEN for alone)")
    static void lastHasNoNeighbourBehind() {
        for (int group = 1; group < 6; group++) {
            WordlessSigns x = corners(3);
            x.land(0, 1, 7);
            x.rules(12, 99, 400, 100);
            x.group(12, group);
            x.hang(1);
            x.hang(2);
            due("nothing helps 12 of group " + group, x.among(1, 0, 0), 14);
            x.unhang();
            x.hang(1);
            x.hang(0);
            due("the first of all is none's neighbour", x.order(0, NONE), 2);
            x.unhang();
            x.hang(0);
            x.hang(1);
            due("12 helps itself, first of the things", x.among(1, 0, 0), 12);
            due("so the other order is best", x.order(0, 0), 1);
        }
    }

    @Says("AMONG: DRAWINGS hung in a row (8 at most): in a LAND at a SITE")
    static void rowInAllLandsAndGroups() {
        WordlessSigns x = corners(4);
        for (int land = 0; land < 6; land++) {
            x.land(land, 10 + land, land % 2 == 0 ? 15 : 14);
        }
        x.rules(12, 5, 400, 100);
        x.group(13, 1);
        x.group(14, 5);
        x.group(15, 4);
        int[] row = {1, 0, 2, 0, 3, 0};
        for (int d : row) {
            x.hang(d);
        }
        for (int land = 0; land < 6; land++) {
            for (int i = 0; i < row.length; i++) {
                due("land " + land + ", place " + i, x.among(i, land, 0), amongPlainly(row, i, land));
            }
        }
    }

    /** The same by the words alone: all corners are 4 apart, HELP is 5, groups 0, 1, 5, 4. */
    private static int amongPlainly(int[] row, int i, int land) {
        int[] groups = {0, 1, 5, 4};
        int first = land % 2 == 0 ? 0 : 1;
        int took = NONE;
        for (int at = 0; at <= i; at++) {
            int ahead = took;
            int behind = at + 1 < row.length ? Math.max(first, row[at + 1]) : NONE;
            int best = NONE;
            int least = 0;
            for (int thing = first; thing < 4; thing++) {
                boolean helped = at > 0 && groups[thing] != 0 && (ahead != NONE && groups[ahead] == groups[thing]
                        || behind != NONE && groups[behind] == groups[thing]);
                int score = (thing == row[at] ? 0 : 4) - (helped ? 5 : 0);
                if (best == NONE || score < least) {
                    best = thing;
                    least = score;
                }
            }
            took = best;
        }
        return 12 + took;
    }

    @Says("WORN by n: each set of n PARTS that a DRAWING has is lost")
    static void wornIsNeverWhole() {
        WordlessSigns x = told(1, 1);
        x.means(0, 12, false);
        x.land(0, 7, 1);
        x.rules(0, 4, 400, 100);
        x.part(0, 1, 0, 0);
        due("whole it is wrong", x.worn(0, 0, 0, 0), 0);
        due("worn it is right", x.worn(0, 0, 1, 0), 7);
    }

    @Says("BARS: with a bound D")
    static void barsByCandidatesAlone() {
        WordlessSigns x = corners(4);
        x.candidate(0, 1);
        x.candidate(1, 1);
        due("0 is no candidate", x.bars(1), 1);
        WordlessSigns y = told(4, 0);
        for (int slot = 0; slot < 6; slot++) {
            for (int d = 0; d < 4; d++) {
                y.candidate(slot, d);
            }
        }
        due("full slots of alike ones", y.bars(1), 1);
        WordlessSigns z = told(5, 0);
        z.part(4, 1, 0, 0);
        z.candidate(0, 0);
        for (int d = 0; d < 4; d++) {
            z.candidate(5, d);
        }
        due("the last slot full", z.bars(1), 5);
    }

    @Says("by which all ANSWERS of it TOLD on k or ahead are so")
    static void answersBarAllThatIsNearer() {
        WordlessSigns x = corners(4);
        x.clear(15);
        x.part(15, 2, 4, 0);
        x.rules(10, 4, 400, 100);
        x.answer(0, 0, 0, 15);
        due("15 alone: three nearer ones are barred", x.minds(0, 0, NONE), 1);
        due("15 alone", x.minds(0, 0, 0), 8);
        for (int d = 0; d < 3; d++) {
            due("nothing parts, " + d, x.knows(0, 0, 12 + d), 0);
        }
        due("none parts", x.parts(0, 0, 0), NONE);
        WordlessSigns y = corners(3);
        y.rules(4, 4, 400, 100);
        y.answer(0, 0, 1, NONE);
        due("at the limit all are barred", y.minds(0, 0, NONE), 1);
        y.rules(3, 4, 400, 100);
        due("above it 13 alone is", y.minds(0, 0, NONE), 4);
        due("12 may be", y.knows(0, 0, 12), 1);
        y.rules(4, 4, 400, 100);
        y.lean(0, 12, 0);
        due("barred ones don't part", y.parts(0, 0, 0), NONE);
    }

    @Says("LOOKS 0 .. 23")
    static void allThingsInEveryCall() {
        WordlessSigns x = told(1, 12);
        x.part(0, 1, 0, 0);
        x.part(23, 1, 0, 0);
        x.means(0, 23, false);
        x.land(0, 5, 4095);
        x.stock(1, 0, 0);
        due("right", x.odds(0, 0, 1), 5);
        due("worn", x.worn(0, 0, 1, 0), 0);
        due("made", x.made(0, 0, 0), 1);
        x.answer(0, 0, 0, 23);
        due("minds: the others are farther", x.minds(0, 0, NONE), 2048);
        x.answer(1, 0, 0, NONE);
        due("nothing: all are within the limit", x.minds(1, 0, NONE), 1);
    }

    @Says("BEST ORDER of a row (6 at most): that by which SHARES of RIGHT ones over all together are greatest")
    static void orderTellsPairsOfGroupsApart() {
        WordlessSigns x = told(5, 3);
        int[] kinds = {0, 1, 2};
        for (int i = 0; i < 3; i++) {
            x.part(12 + i, kinds[i], 0, 0);
            x.group(12 + i, i + 1);
        }
        int[] meant = {13, 12, 14, 13, 13};
        for (int i = 0; i < 5; i++) {
            if (i > 0) {
                x.part(i, kinds[meant[i] - 12], 0, 0);
            }
            x.means(i, meant[i], false);
            x.hang(i);
        }
        x.lean(0, 12, 1);
        x.lean(0, 14, 1);
        x.land(0, 1, 7);
        // 0 is right only where group 2 alone helps; groups 1 and 3 beside it add up to the same as 2 and 2.
        due("all five", x.order(0, NONE), 5);
        int[] best = {1, 2, 3, 0, 4};
        for (int i = 0; i < 5; i++) {
            due("the " + i + "-th", x.order(0, i), best[i]);
        }
    }

    @Says("BEST ORDER of a row (6 at most): that by which SHARES of RIGHT ones over all together are greatest")
    static void orderTellsLandsApart() {
        WordlessSigns x = told(2, 2);
        x.part(12, 0, 0, 0);
        x.part(13, 1, 0, 0);
        x.group(12, 1);
        x.part(0, 0, 0, 0);
        x.means(0, 12, false);
        x.means(1, 13, false);
        x.land(0, 10, 3);
        x.land(1, 1, 2);
        x.hang(0);
        x.hang(1);
        due("0 in land 0 and 1 in land 1", x.order(0, NONE), 11);
    }

    @Says(promise = 15, value = "Of the latest text that was read: 0 its FAULT (0 without), 1 its place (NONE without)")
    static void wordsAtTheLastByteOfAFullTape() {
        String[] words = {"n", "no", "li", "line", "lines", "not", "an", "harm", "site"};
        for (String word : words) {
            boolean starts = word.equals("not") || word.equals("harm");
            fault(" ".repeat(300 - word.length()) + word, 1, starts ? 300 : 300 - word.length());
            String clause = "harm 1+";
            boolean name = word.equals("lines") || word.equals("site");
            String text = clause + " ".repeat(300 - clause.length() - word.length()) + word;
            fault(text, 1, name ? 300 : 300 - word.length());
        }
    }

    @Says(promise = 14, value = "The tape (empty then) is a GRAMMAR: its number")
    static void nothingIsLeftOfAFaultyText() {
        WordlessSigns x = misread();
        due("a minus, then a fault", read(x, "harm -5 !"), NONE);
        readBy(x, "harm 5;");
        due("no minus behind 5", x.harm(0, 4, 2), 5);
    }
}
