/** The Terms, part I: LOOKS, FAR, LANDS, TAKEN, RIGHT. */
final class TermsOfLooks extends Sentences {
    @Says("A LOOK: up to 6 PARTS, each of a KIND (0 line, 1 circle, 2 bar, 3 arrow, 4 fill)")
    static void kindsAreFromLineToFill() {
        String[] names = {"lines", "circles", "bars", "arrows", "fills"};
        for (int kind = 0; kind < 5; kind++) {
            WordlessSigns x = told(1, 0);
            due("part of kind " + kind, x.part(0, kind, 0, 0), 1);
            readBy(x, "not " + names[kind] + "=1;");
            due("counted among " + names[kind], x.says(0, 0), 1);
        }
        due("below the kinds", told(1, 0).part(0, -1, 0, 0), NONE);
        due("above the kinds", told(1, 0).part(0, 5, 0, 0), NONE);
    }

    @Says("at a PLACE (0 .. 8: x + 3 y)")
    static void placesAreFromZeroToEight() {
        WordlessSigns x = told(2, 0);
        due("place 0", x.part(0, 1, 0, 0), 1);
        due("place 8", x.part(1, 1, 8, 0), 1);
        due("two in x, two in y", x.far(0, 1), 4);
        due("below", x.part(0, 1, -1, 0), NONE);
        due("above", x.part(0, 1, 9, 0), NONE);
        // Place 2 ends the first row and 3 begins the second: two apart in x, though their numbers are one apart.
        WordlessSigns y = told(2, 0);
        y.part(0, 1, 2, 0);
        y.part(1, 1, 3, 0);
        due("from the end of a row to the next", y.far(0, 1), 4);
    }

    @Says("of a WAY (0 .. 3)")
    static void waysAreFromZeroToThree() {
        WordlessSigns x = told(2, 0);
        due("way 0", x.part(0, 1, 0, 0), 1);
        due("way 3", x.part(1, 1, 0, 3), 1);
        due("0 and 3 are unlike, once", x.far(0, 1), 1);
        due("below", x.part(0, 1, 0, -1), NONE);
        due("above", x.part(0, 1, 0, 4), NONE);
    }

    @Says("up to 6 PARTS")
    static void sixPartsAndNoSeventh() {
        WordlessSigns x = told(1, 0);
        for (int i = 0; i < 6; i++) {
            due("part " + i, x.part(0, 1, i, 0), i + 1);
        }
        due("the 7th", x.part(0, 1, 6, 0), NONE);
        due("six stay", x.about(20), 6);
    }

    @Says("no two alike")
    static void partsAreUnlikeInOneThingAtLeast() {
        WordlessSigns x = told(1, 0);
        x.part(0, 1, 4, 2);
        due("alike", x.part(0, 1, 4, 2), NONE);
        due("another way", x.part(0, 1, 4, 3), 2);
        due("another place", x.part(0, 1, 5, 2), 3);
        due("another kind", x.part(0, 2, 4, 2), 4);
        due("alike to the last", x.part(0, 2, 4, 2), NONE);
    }

    @Says("and a COLOUR (0 .. 3)")
    static void coloursAreFromZeroToThree() {
        WordlessSigns x = told(2, 0);
        due("colour 3", x.colour(0, 3), true);
        due("it is another than 0", x.far(0, 1), 3);
        due("colour 0", x.colour(0, 0), true);
        due("it is 0", x.far(0, 1), 0);
        due("below", x.colour(0, -1), false);
        due("above", x.colour(0, 4), false);
    }

    @Says("LOOKS 0 .. 23: 0 .. 11 are DRAWINGS, 12 .. 23 THINGS")
    static void drawingsEndAtElevenThingsBeginAtTwelve() {
        WordlessSigns x = told(12, 12);
        due("11 is a drawing", x.means(11, 23, false), true);
        due("12 is none", x.means(12, 23, false), false);
        due("12 is a thing", x.group(12, 1), true);
        due("11 is none", x.group(11, 1), false);
        due("23 is a thing", x.group(23, 1), true);
        due("24 is no look", x.part(24, 0, 0, 0), NONE);
        due("0 is one", x.part(0, 0, 0, 0), 1);
        due("23 is one", x.part(23, 0, 0, 0), 1);
    }

    @Says("told one by one")
    static void noLookIsThereBeforeItIsTold() {
        WordlessSigns x = new WordlessSigns();
        for (int i = 0; i < 12; i++) {
            due("drawing " + i + " ahead", x.clear(i), NONE);
            due("it comes", x.look(false), i);
            due("drawing " + i, x.clear(i), 0);
            due("thing " + (12 + i) + " ahead", x.clear(12 + i), NONE);
            due("it comes", x.look(true), 12 + i);
            due("thing " + (12 + i), x.clear(12 + i), 0);
        }
    }

    @Says("each at first without PARTS, of COLOUR 0")
    static void newLooksAreEmptyAndOfColourZero() {
        WordlessSigns x = told(12, 12);
        for (int look = 0; look < 24; look++) {
            due("parts of " + look, x.about(20 + look), 0);
        }
        x.weights(2, 1, 5, 99);
        for (int look = 1; look < 24; look++) {
            due("colour of " + look + " as that of 0", x.far(0, look), 0);
        }
        readBy(x, "not colour=0;");
        due("it is 0", x.says(0, 0), 1);
    }

    @Says("each at first without PARTS, of COLOUR 0")
    static void lookToldAgainBehindBackIsAsAtFirst() {
        WordlessSigns x = new WordlessSigns();
        x.look(false);
        x.look(true);
        x.part(0, 1, 0, 0);
        x.colour(0, 2);
        x.means(0, 12, true);
        x.part(12, 1, 0, 0);
        x.colour(12, 1);
        x.back();
        x.look(false);
        x.look(true);
        due("parts of the drawing", x.about(20), 0);
        due("parts of the thing", x.about(32), 0);
        due("colours", x.far(0, 12), 0);
        readBy(x, "not means=-1 and colour=0;");
        due("means none", x.says(0, 0), 1);
    }

    @Says("A DRAWING MEANS a THING (12 .. 23; none at first), or not it")
    static void meansNoneAtFirst() {
        WordlessSigns x = told(12, 12);
        readBy(x, "not means=-1;");
        for (int d = 0; d < 12; d++) {
            due("drawing " + d + " means none", x.says(d, 0), 1);
        }
        due("means(0, 12)", x.means(0, 12, false), true);
        due("means(0, 23)", x.means(0, 23, false), true);
        due("a drawing is nothing to mean", x.means(0, 11, false), false);
        due("beyond the things", x.means(0, 24, false), false);
    }

    @Says("each PART in one pair at most")
    static void partIsPairedOnce() {
        WordlessSigns x = told(2, 0);
        x.part(0, 1, 0, 0);
        x.part(0, 1, 1, 0);
        x.part(1, 1, 0, 0);
        due("two of one kind against one", x.far(0, 1), 5);
        due("from the other side", x.far(1, 0), 5);
        circles(x, 0, 9);
        due("six against one", x.far(0, 1), 25);
    }

    @Says("pairs of PARTS of one KIND")
    static void kindsAreNotPaired() {
        WordlessSigns x = told(2, 0);
        x.part(0, 1, 0, 0);
        x.part(1, 2, 0, 0);
        due("alike but for the kind", x.far(0, 1), 10);
    }

    @Says("the greater of how far apart their PLACES are in x, in y")
    static void placesAreApartByTheGreaterWay() {
        for (int from = 0; from < 9; from++) {
            for (int to = 0; to < 9; to++) {
                WordlessSigns x = told(2, 0);
                x.part(0, 1, from, 0);
                x.part(1, 1, to, 0);
                int apart = Math.max(Math.abs(from % 3 - to % 3), Math.abs(from / 3 - to / 3));
                due("from place " + from + " to " + to, x.far(0, 1), 2 * apart);
            }
        }
    }

    @Says("and TURN if their WAYS are unlike")
    static void turnCountsOnceForAnyTwoWays() {
        for (int one = 0; one < 4; one++) {
            for (int other = 0; other < 4; other++) {
                WordlessSigns x = told(2, 0);
                x.part(0, 1, 0, one);
                x.part(1, 1, 0, other);
                due("way " + one + " and " + other, x.far(0, 1), one == other ? 0 : 1);
            }
        }
    }

    @Says("DROP for each PART in none")
    static void droppingIsTakenWhereItIsCheaper() {
        WordlessSigns x = told(3, 0);
        x.part(0, 1, 0, 0);
        x.part(1, 1, 2, 0);
        x.weights(5, 99, 5, 3);
        due("a pair as dear as two drops", x.far(0, 1), 10);
        x.weights(6, 99, 5, 3);
        due("a pair that is dearer", x.far(0, 1), 10);
        x.weights(4, 99, 5, 3);
        due("a pair that is cheaper", x.far(0, 1), 8);
        due("one against an empty look", x.far(0, 2), 5);
        x.weights(99, 99, 0, 0);
        due("dropping for nothing", x.far(0, 1), 0);
    }

    @Says("the least sum of")
    static void pairsAreChosenForTheSum() {
        WordlessSigns x = told(2, 0);
        x.part(0, 1, 1, 0);
        x.part(0, 1, 0, 1);
        x.part(1, 1, 1, 1);
        x.part(1, 1, 2, 0);
        x.weights(9, 1, 99, 3);
        // The nearest two first, at place 1, would be 1, and leave 19 for the others.
        due("two steps", x.far(0, 1), 18);
    }

    @Says("TINT if COLOURS are unlike")
    static void tintCountsOnceAndForEmptyLooks() {
        WordlessSigns x = told(2, 0);
        for (int one = 0; one < 4; one++) {
            for (int other = 0; other < 4; other++) {
                x.colour(0, one);
                x.colour(1, other);
                due("colour " + one + " and " + other, x.far(0, 1), one == other ? 0 : 3);
            }
        }
    }

    @Says("MOVE, TURN, DROP, TINT (0 .. 99): at first 2, 1, 5, 3")
    static void weightsAtFirst() {
        WordlessSigns x = told(4, 1);
        x.part(0, 1, 0, 0);
        x.part(1, 1, 1, 0);
        x.part(2, 1, 0, 1);
        x.part(3, 1, 0, 0);
        x.colour(3, 1);
        due("MOVE", x.far(0, 1), 2);
        due("TURN", x.far(0, 2), 1);
        due("DROP", x.far(0, 12), 5);
        due("TINT", x.far(0, 3), 3);
    }

    @Says("MOVE, TURN, DROP, TINT (0 .. 99)")
    static void greatestFarOfAll() {
        WordlessSigns x = told(2, 0);
        for (int i = 0; i < 6; i++) {
            x.part(0, 1, i, 0);
            x.part(1, 2, i, 0);
        }
        x.colour(1, 3);
        x.weights(99, 99, 99, 99);
        due("twelve drops and a tint", x.far(0, 1), 13 * 99);
        x.weights(0, 0, 0, 0);
        due("all for nothing", x.far(0, 1), 0);
    }

    @Says("LANDS 0 .. 5: a SHARE (0 .. 99; at first 0)")
    static void landsHaveNoShareAtFirst() {
        WordlessSigns x = told(1, 0);
        due("all shares", x.odds(0, 0, 2), 0);
        for (int land = 0; land < 6; land++) {
            due("share 99", x.land(land, 99, 0), true);
            due("all shares", x.odds(0, 0, 2), 99 * (land + 1));
        }
        due("land -1", x.land(-1, 1, 0), false);
        due("land 6", x.land(6, 1, 0), false);
        due("share -1", x.land(0, -1, 0), false);
        due("share 100", x.land(0, 100, 0), false);
        due("they stay", x.odds(0, 0, 2), 594);
        due("share 0", x.land(0, 0, 0), true);
        due("one goes", x.odds(0, 0, 2), 495);
    }

    @Says("THINGS that are KNOWN there (a set, bit i for THING 12 + i; at first none)")
    static void bitsOfKnownThings() {
        WordlessSigns x = told(1, 12);
        for (int land = 0; land < 6; land++) {
            due("none at first in land " + land, x.taken(0, land, 0), NONE);
        }
        for (int i = 0; i < 12; i++) {
            x.land(i % 6, 1, 1 << i);
            due("bit " + i, x.taken(0, i % 6, 0), 12 + i);
        }
        x.land(0, 1, 4095);
        due("all", x.taken(0, 0, 0), 12);
        x.land(0, 1, 0);
        due("none again", x.taken(0, 0, 0), NONE);
    }

    @Says("SITES 0 .. 5: a LEAN to each THING (0 .. 99; at first 0)")
    static void leansAreZeroAtFirstAndOfOneSite() {
        WordlessSigns x = corners(2);
        x.land(0, 1, 3);
        x.land(1, 1, 2);
        x.rules(0, 4, 400, 100);
        for (int site = 0; site < 6; site++) {
            due("no lean at site " + site, x.taken(0, 1, site), NONE);
        }
        x.lean(5, 13, 4);
        due("a lean of 4 at site 5", x.taken(0, 1, 5), 13);
        due("none at site 4", x.taken(0, 1, 4), NONE);
        due("alike with 12: the lowest", x.taken(0, 0, 5), 12);
        due("lean 99", x.lean(0, 13, 99), true);
        due("99 turns it", x.taken(0, 0, 0), 13);
        due("lean 0 again", x.lean(0, 13, 0), true);
        due("as at first", x.taken(0, 0, 0), 12);
        due("lean -1", x.lean(0, 13, -1), false);
        due("lean 100", x.lean(0, 13, 100), false);
        due("site -1", x.lean(-1, 13, 1), false);
        due("site 6", x.lean(6, 13, 1), false);
    }

    @Says("LIMIT (0 .. 999; at first 12)")
    static void limitIsTwelveAtFirst() {
        WordlessSigns x = told(2, 1);
        x.land(0, 1, 1);
        x.weights(2, 1, 6, 1);
        circles(x, 0, 2);
        due("12 far", x.taken(0, 0, 0), 12);
        x.colour(0, 1);
        due("13 far", x.taken(0, 0, 0), NONE);
    }

    @Says("LIMIT (0 .. 999; at first 12)")
    static void limitFromZeroToNineHundredNinetyNine() {
        WordlessSigns x = told(1, 1);
        x.land(0, 1, 1);
        due("limit 0", x.rules(0, 4, 400, 100), true);
        due("0 far", x.taken(0, 0, 0), 12);
        x.weights(2, 1, 99, 9);
        for (int i = 0; i < 6; i++) {
            x.part(0, 1, i, 0);
            x.part(12, 2, i, 0);
        }
        due("limit 999", x.rules(999, 4, 400, 100), true);
        due("1188 far", x.taken(0, 0, 0), NONE);
        x.clear(0);
        circles(x, 0, 4);
        due("990 far", x.taken(0, 0, 0), 12);
        x.colour(0, 1);
        due("999 far", x.taken(0, 0, 0), 12);
        x.weights(2, 1, 99, 10);
        due("1000 far", x.taken(0, 0, 0), NONE);
        due("limit -1", x.rules(-1, 4, 400, 100), false);
        due("limit 1000", x.rules(1000, 4, 400, 100), false);
    }

    @Says("of KNOWN THINGS that by which FAR less LEAN is least")
    static void leanCountsAgainstFar() {
        WordlessSigns x = corners(2);
        x.land(0, 1, 3);
        x.lean(0, 13, 5);
        due("4 less 5 is below 0", x.taken(0, 0, 0), 13);
        x.lean(0, 12, 2);
        due("0 less 2 is below that", x.taken(0, 0, 0), 12);
        x.land(0, 1, 2);
        due("one that is not known is none", x.taken(0, 0, 0), 13);
    }

    @Says("of like ones the lowest")
    static void lowestOfLikeThings() {
        WordlessSigns x = told(1, 12);
        x.land(0, 1, 4095);
        x.land(1, 1, 4094);
        x.land(2, 1, 0xc00);
        due("all alike", x.taken(0, 0, 0), 12);
        due("but the first", x.taken(0, 1, 0), 13);
        due("the last two", x.taken(0, 2, 0), 22);
    }

    @Says("nothing, if there are none, or that is above LIMIT")
    static void nothingIsTaken() {
        WordlessSigns x = corners(2);
        x.rules(4, 4, 400, 100);
        due("none is known", x.taken(0, 0, 0), NONE);
        x.land(0, 1, 2);
        due("at the limit", x.taken(0, 0, 0), 13);
        x.rules(3, 4, 400, 100);
        due("above the limit", x.taken(0, 0, 0), NONE);
        x.lean(0, 13, 1);
        due("what counts is FAR less LEAN", x.taken(0, 0, 0), 13);
    }

    @Says("READ: TAKEN, and not, if THE GRAMMAR says not of the DRAWING")
    static void readAsNotByTheGrammar() {
        WordlessSigns x = corners(1);
        x.land(0, 1, 1);
        due("without a grammar", x.right(0, 0, 0), 1);
        readBy(x, "not circles=1;");
        due("read as not it", x.right(0, 0, 0), 0);
        due("it is taken for the same", x.taken(0, 0, 0), 12);
    }

    @Says("RIGHT: TAKEN for what it MEANS, not if and only if it MEANS not it")
    static void rightNeedsTheThingAndTheNot() {
        WordlessSigns x = corners(2);
        x.land(0, 1, 3);
        read(x, "not circles=1;");
        boolean[] both = {false, true};
        for (int thing = 12; thing < 14; thing++) {
            for (boolean meant : both) {
                for (boolean said : both) {
                    x.means(0, thing, meant);
                    x.by(said ? 0 : NONE);
                    int want = thing == 12 && meant == said ? 1 : 0;
                    due("means " + thing + ", not " + meant + ", said " + said, x.right(0, 0, 0), want);
                }
            }
        }
    }

    @Says("RIGHT: TAKEN for what it MEANS")
    static void nothingIsNeverRight() {
        WordlessSigns x = corners(1);
        due("means 12, taken for nothing", x.right(0, 0, 0), 0);
        x.means(0, NONE, false);
        due("means none, taken for nothing", x.right(0, 0, 0), 0);
        due("its harm", x.harm(0, 0, 0), 1);
        x.land(0, 1, 1);
        due("means none, taken for 12", x.right(0, 0, 0), 0);
    }
}
