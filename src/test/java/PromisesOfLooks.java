/** The sentences of promises 1 to 11. */
final class PromisesOfLooks extends Sentences {
    @Says(promise = 1, value = "No LOOKS told, no LANDS with SHARES")
    static void newObjectIsEmpty() {
        WordlessSigns x = new WordlessSigns();
        for (int look = 0; look < 24; look++) {
            due("look " + look, x.about(20 + look), NONE);
            due("look " + look, x.clear(look), NONE);
        }
        for (int what = 0; what <= 8; what++) {
            due("about(" + what + ")", x.about(what), what == 4 ? NONE : 0);
        }
        x.look(false);
        due("shares", x.odds(0, 0, 2), 0);
        due("unhang()", x.unhang(), 0);
        due("minds of a land", x.minds(0, 0, NONE), 1);
    }

    @Says(promise = 1, value = "THE IMAGE is this")
    static void newObjectIsItsOwnImage() {
        WordlessSigns x = corners(2);
        x.land(0, 9, 3);
        x.days(9);
        x.hang(0);
        x.stock(0, 0, 0);
        x.answer(0, 0, 0, 12);
        x.weights(9, 9, 9, 9);
        x.rules(0, 0, 1, 0);
        readBy(x, "harm 7;");
        due("back() to day 0", x.back(), 0);
        for (int what = 0; what <= 7; what++) {
            due("about(" + what + ")", x.about(what), what == 4 ? NONE : 0);
        }
        due("no look", x.about(20), NONE);
        x.look(false);
        x.look(false);
        x.part(1, 1, 0, 0);
        due("drop as at first", x.far(0, 1), 5);
        due("no shares", x.odds(0, 0, 2), 0);
        due("teach as at first", x.teach(0, 0), 400);
        due("no grammar", x.harm(0, 1, 0), 1);
    }

    @Says(promise = 2, value = "A DRAWING more (thing false), or a THING: its LOOK")
    static void looksCountForThemselves() {
        WordlessSigns x = new WordlessSigns();
        due("the first thing", x.look(true), 12);
        due("the second thing", x.look(true), 13);
        due("the first drawing", x.look(false), 0);
        due("drawings", x.about(1), 1);
        due("things", x.about(2), 2);
    }

    @Says(promise = 2, value = "NONE if there are 12")
    static void noThirteenthLook() {
        WordlessSigns x = told(12, 11);
        due("the 13th drawing", x.look(false), NONE);
        due("the 12th thing", x.look(true), 23);
        due("the 13th thing", x.look(true), NONE);
        due("the 13th drawing again", x.look(false), NONE);
        due("drawings", x.about(1), 12);
        due("things", x.about(2), 12);
        WordlessSigns y = told(11, 12);
        due("the 13th thing", y.look(true), NONE);
        due("the 12th drawing", y.look(false), 11);
    }

    @Says(promise = 3, value = "A PART of a LOOK that is told: how many it has")
    static void partsAreCounted() {
        WordlessSigns x = told(2, 2);
        due("of a drawing", x.part(1, 4, 8, 3), 1);
        due("one more", x.part(1, 0, 0, 0), 2);
        due("of a thing", x.part(13, 4, 8, 3), 1);
        due("the others have none", x.about(20) + x.about(32), 0);
    }

    @Says(promise = 3, value = "NONE for others")
    static void partOfOthers() {
        WordlessSigns x = told(2, 2);
        for (int look : new int[] {LEAST, -1, 2, 11, 14, 23, 24, MOST}) {
            due("part of look " + look, x.part(look, 0, 0, 0), NONE);
        }
        for (int kind : new int[] {LEAST, -1, 5, MOST}) {
            due("kind " + kind, x.part(0, kind, 0, 0), NONE);
        }
        for (int place : new int[] {LEAST, -1, 9, MOST}) {
            due("place " + place, x.part(0, 0, place, 0), NONE);
        }
        for (int way : new int[] {LEAST, -1, 4, MOST}) {
            due("way " + way, x.part(0, 0, 0, way), NONE);
        }
        due("none came", x.about(20), 0);
    }

    @Says(promise = 3, value = "one that is there")
    static void partThatIsThere() {
        WordlessSigns x = told(2, 0);
        for (int i = 0; i < 5; i++) {
            x.part(0, i, 8 - i, i % 4);
        }
        for (int i = 0; i < 5; i++) {
            due("part " + i + " again", x.part(0, i, 8 - i, i % 4), NONE);
        }
        due("of another look it is not there", x.part(1, 0, 8, 0), 1);
        x.clear(0);
        due("it went with the others", x.part(0, 0, 8, 0), 1);
    }

    @Says(promise = 3, value = "or if there are 6")
    static void partWhereThereAreSix() {
        WordlessSigns x = told(1, 1);
        circles(x, 0, 6);
        circles(x, 12, 6);
        due("of a drawing", x.part(0, 0, 0, 0), NONE);
        due("of a thing", x.part(12, 0, 0, 0), NONE);
        due("they are as they were", x.far(0, 12), 0);
        x.clear(0);
        due("there is room again", x.part(0, 0, 0, 0), 1);
    }

    @Says(promise = 4, value = "Its PARTS go: how many")
    static void clearOfNoneToSix() {
        for (int n = 0; n <= 6; n++) {
            WordlessSigns x = told(1, 1);
            circles(x, 0, n);
            circles(x, 12, n);
            x.colour(0, 1);
            due("of a drawing with " + n, x.clear(0), n);
            due("they are gone", x.about(20), 0);
            due("of a thing with " + n, x.clear(12), n);
            due("the colour stays", x.far(0, 12), 3);
        }
    }

    @Says(promise = 4, value = "NONE for others")
    static void clearOfOthers() {
        WordlessSigns x = told(2, 2);
        for (int look : new int[] {LEAST, -1, 2, 11, 14, 23, 24, MOST}) {
            due("clear(" + look + ")", x.clear(look), NONE);
        }
    }

    @Says(promise = 5, value = "COLOUR: true")
    static void colourOfAnyToldLook() {
        WordlessSigns x = told(1, 1);
        for (int colour = 0; colour < 4; colour++) {
            due("of a drawing", x.colour(0, colour), true);
            due("of a thing", x.colour(12, 3 - colour), true);
            due("they are unlike", x.far(0, 12), 3);
            due("the same again", x.colour(0, colour), true);
        }
    }

    @Says(promise = 5, value = "False for others")
    static void colourOfOthers() {
        WordlessSigns x = told(2, 2);
        for (int look : new int[] {LEAST, -1, 2, 11, 14, 23, 24, MOST}) {
            due("colour of look " + look, x.colour(look, 1), false);
        }
        for (int colour : new int[] {LEAST, -1, 4, MOST}) {
            due("colour " + colour, x.colour(0, colour), false);
        }
        for (int look : new int[] {1, 12, 13}) {
            due("nothing changed", x.far(0, look), 0);
        }
    }

    @Says(promise = 6, value = "A DRAWING MEANS a THING that is told (NONE: none), or not it: true")
    static void meansOneNoneAndNotIt() {
        WordlessSigns x = corners(2);
        x.land(0, 1, 3);
        due("right at first", x.right(0, 0, 0), 1);
        due("means none", x.means(0, NONE, false), true);
        due("not right", x.right(0, 0, 0), 0);
        due("means not 12", x.means(0, 12, true), true);
        due("not right", x.right(0, 0, 0), 0);
        due("means 12", x.means(0, 12, false), true);
        due("right again", x.right(0, 0, 0), 1);
        due("not none is none", x.means(0, NONE, true), true);
        readBy(x, "harm 50+turned+10*means;");
        due("there is no not, and means is -1", x.harm(0, 0, 0), 40);
    }

    @Says(promise = 6, value = "False for others")
    static void meansOfOthers() {
        WordlessSigns x = corners(2);
        x.land(0, 1, 3);
        for (int drawing : new int[] {LEAST, -1, 2, 11, 12, 24, MOST}) {
            due("of drawing " + drawing, x.means(drawing, 12, false), false);
        }
        for (int thing : new int[] {LEAST, -2, 0, 1, 11, 14, 23, 24, MOST}) {
            due("thing " + thing, x.means(0, thing, true), false);
            due("thing " + thing, x.means(0, thing, false), false);
        }
        due("it means what it meant", x.right(0, 0, 0), 1);
    }

    @Says(promise = 7, value = "MOVE, TURN, DROP, TINT: true")
    static void weightsAtTheirBounds() {
        WordlessSigns x = told(3, 0);
        x.part(0, 1, 0, 0);
        x.part(1, 1, 1, 1);
        x.colour(1, 1);
        int[][] cases = {{0, 0, 0, 0}, {99, 0, 99, 0}, {0, 99, 99, 0}, {0, 0, 99, 99}, {99, 99, 99, 99}, {0, 0, 0, 99}};
        for (int[] w : cases) {
            due("weights", x.weights(w[0], w[1], w[2], w[3]), true);
            due("far", x.far(0, 1), Math.min(w[0] + w[1], 2 * w[2]) + w[3]);
        }
    }

    @Says(promise = 7, value = "False, changing nothing, for others")
    static void weightsOfOthers() {
        for (int i = 0; i < 4; i++) {
            for (int bad : new int[] {LEAST, -1, 100, MOST}) {
                WordlessSigns x = told(4, 1);
                x.part(0, 1, 0, 0);
                x.part(1, 1, 1, 0);
                x.part(2, 1, 0, 1);
                x.part(3, 1, 0, 0);
                x.colour(3, 1);
                int[] w = {50, 50, 50, 50};
                w[i] = bad;
                due("weight " + i + " of " + bad, x.weights(w[0], w[1], w[2], w[3]), false);
                due("MOVE", x.far(0, 1), 2);
                due("TURN", x.far(0, 2), 1);
                due("DROP", x.far(0, 12), 5);
                due("TINT", x.far(0, 3), 3);
            }
        }
    }

    @Says(promise = 8, value = "FAR")
    static void farOfTheSameAndOfEmptyLooks() {
        WordlessSigns x = told(2, 2);
        due("two empty ones", x.far(0, 13), 0);
        circles(x, 0, 6);
        x.colour(0, 2);
        due("from itself", x.far(0, 0), 0);
        due("six against none", x.far(0, 1), 33);
        due("none against six", x.far(1, 0), 33);
        circles(x, 13, 6);
        due("a drawing from a thing", x.far(0, 13), 3);
        due("a thing from a drawing", x.far(13, 0), 3);
        x.clear(13);
        due("as it is now", x.far(0, 13), 33);
    }

    @Says(promise = 8, value = "NONE for LOOKS that aren't told")
    static void farOfOthers() {
        WordlessSigns x = told(2, 2);
        for (int look : new int[] {LEAST, -1, 2, 11, 14, 23, 24, MOST}) {
            due("far(" + look + ", 0)", x.far(look, 0), NONE);
            due("far(0, " + look + ")", x.far(0, look), NONE);
            due("far of it from itself", x.far(look, look), NONE);
        }
    }

    @Says(promise = 9, value = "A LAND: SHARE, THINGS KNOWN (bits 0 .. 11; those that aren't told don't count): true")
    static void landWithBitsOfNoThing() {
        for (int known : new int[] {-1, LEAST, MOST, 4096, 4095, -4096, 0xff8}) {
            WordlessSigns x = corners(3);
            due("land with " + known, x.land(0, 99, known), true);
            due("its share", x.odds(0, 0, 2), 99);
            for (int i = 0; i < 3; i++) {
                boolean knows = (known >> i & 1) != 0;
                due("12 + " + i + " of " + known, x.right(i, 0, 0), knows ? 1 : 0);
            }
            due("without things", new WordlessSigns().land(5, 0, known), true);
        }
        WordlessSigns x = told(1, 0);
        x.land(0, 1, 1);
        x.look(true);
        due("a thing told later was none then", x.taken(0, 0, 0), NONE);
        x.land(0, 1, 1);
        due("now it is one", x.taken(0, 0, 0), 12);
    }

    @Says(promise = 9, value = "False for others")
    static void landOfOthers() {
        WordlessSigns x = corners(2);
        x.land(0, 7, 3);
        for (int land : new int[] {LEAST, -1, 6, MOST}) {
            due("land " + land, x.land(land, 1, 3), false);
        }
        for (int share : new int[] {LEAST, -1, 100, MOST}) {
            due("share " + share, x.land(0, share, 0), false);
        }
        due("the share is as it was", x.odds(0, 0, 2), 7);
        due("what is known is as it was", x.taken(1, 0, 0), 13);
    }

    @Says(promise = 10, value = "LEAN of a SITE to a THING that is told: true")
    static void leanAtTheBounds() {
        WordlessSigns x = told(1, 12);
        x.land(0, 1, 4095);
        for (int site = 0; site < 6; site++) {
            due("lean 99", x.lean(site, 12 + site, 99), true);
            due("lean 99", x.lean(site, 23 - site, 99), true);
            due("of like ones the lowest", x.taken(0, 0, site), 12 + site);
            due("lean 0", x.lean(site, 12 + site, 0), true);
            due("the other", x.taken(0, 0, site), 23 - site);
        }
    }

    @Says(promise = 10, value = "False for others")
    static void leanOfOthers() {
        WordlessSigns x = corners(2);
        x.land(0, 1, 3);
        for (int site : new int[] {LEAST, -1, 6, MOST}) {
            due("site " + site, x.lean(site, 13, 99), false);
        }
        for (int thing : new int[] {LEAST, -1, 0, 11, 14, 23, 24, MOST}) {
            due("thing " + thing, x.lean(0, thing, 99), false);
        }
        for (int v : new int[] {LEAST, -1, 100, MOST}) {
            due("lean " + v, x.lean(0, 13, v), false);
        }
        for (int site = 0; site < 6; site++) {
            due("nothing changed", x.taken(0, 0, site), 12);
        }
        x.look(true);
        x.land(0, 1, 4);
        x.rules(3, 4, 400, 100);
        due("nor for a thing told later", x.taken(0, 0, 0), NONE);
    }

    @Says(promise = 11, value = "LIMIT, HELP, TEACH, FADE: true")
    static void rulesAtTheirBounds() {
        WordlessSigns x = told(1, 0);
        due("all at least", x.rules(0, 0, 1, 0), true);
        due("TEACH 1", x.teach(0, 0), 1);
        due("all at most", x.rules(999, 99, 1000, 1000), true);
        due("TEACH 1000", x.teach(0, 0), 1000);
        x.weeks(1);
        due("FADE 1000", x.rules(12, 4, 1, 100), true);
        due("all was forgotten", x.teach(0, 0), 1);
    }

    @Says(promise = 11, value = "False, changing nothing, for others")
    static void rulesOfOthers() {
        int[][] bad = {{LEAST, -1, 1000, MOST}, {LEAST, -1, 100, MOST}, {LEAST, -1, 0, 1001, MOST}, {LEAST, -1, 1001, MOST}};
        for (int i = 0; i < 4; i++) {
            for (int v : bad[i]) {
                WordlessSigns x = corners(2);
                x.land(0, 1, 2);
                x.group(13, 1);
                x.hang(1);
                x.hang(0);
                x.rules(3, 1, 300, 500);
                int[] r = {0, 0, 7, 0};
                r[i] = v;
                due("rule " + i + " of " + v, x.rules(r[0], r[1], r[2], r[3]), false);
                due("HELP against LIMIT", x.among(1, 0, 0), 13);
                due("LIMIT", x.taken(0, 0, 0), NONE);
                due("TEACH", x.teach(0, 0), 300);
                x.weeks(1);
                due("FADE", x.teach(0, 0), 450);
            }
        }
    }
}
