/** The sentences of promises 24 to 38. */
final class PromisesOfChoices extends Sentences {
    private static final int[] NO_SITES = {LEAST, -1, 6, MOST};
    private static final int[] NO_LANDS = {LEAST, -1, 6, MOST};
    // Where drawings 0, 1 and things 12, 13 are told.
    private static final int[] NO_DRAWINGS = {LEAST, -1, 2, 11, 12, 24, MOST};
    private static final int[] NO_THINGS = {LEAST, -1, 0, 1, 11, 14, 23, 24, MOST};

    @Says(promise = 24, value = "LEAST FAR of a SET: 0 how far, 1, 2 which two")
    static void leastOfTwoAndOfAll() {
        WordlessSigns x = told(12, 0);
        x.part(11, 1, 0, 0);
        due("0 and 11", x.least(1 | 1 << 11, 0), 5);
        due("0 and 11", x.least(1 | 1 << 11, 1), 0);
        due("0 and 11", x.least(1 | 1 << 11, 2), 11);
        due("all", x.least(4095, 0), 0);
        x.part(0, 1, 0, 0);
        due("0 and 11 are alike now", x.least(1 | 1 << 5 | 1 << 11, 2), 11);
    }

    @Says(promise = 24, value = "NONE for others")
    static void leastOfOthers() {
        WordlessSigns x = told(3, 3);
        for (int set : new int[] {LEAST, -1, -8, 8, 9, 11, 15, 4096, 4099, 4103, LEAST + 7, MOST}) {
            due("set " + set, x.least(set, 0), NONE);
            due("set " + set, x.least(set, 1), NONE);
        }
        for (int what : new int[] {LEAST, -1, 3, MOST}) {
            due("what " + what, x.least(7, what), NONE);
        }
        due("all told ones", x.least(7, 0), 0);
    }

    @Says(promise = 24, value = "and fewer than two")
    static void leastOfFewerThanTwo() {
        WordlessSigns x = told(12, 0);
        due("of none", x.least(0, 0), NONE);
        for (int d = 0; d < 12; d++) {
            for (int what = 0; what < 3; what++) {
                due("of " + d + " alone", x.least(1 << d, what), NONE);
            }
        }
    }

    @Says(promise = 25, value = "A CANDIDATE of a SLOT (0 .. 5): how many it has")
    static void candidatesOfTheFirstAndTheLastSlot() {
        WordlessSigns x = told(12, 0);
        due("slot 0", x.candidate(0, 11), 1);
        due("slot 0", x.candidate(0, 0), 2);
        due("slot 5", x.candidate(5, 11), 1);
        due("slot 5", x.candidate(5, 1), 2);
        due("all are alike: the first as told", x.choice(5), 11);
    }

    @Says(promise = 25, value = "NONE for others")
    static void candidateOfOthers() {
        WordlessSigns x = told(2, 2);
        for (int slot : new int[] {LEAST, -1, 6, MOST}) {
            due("slot " + slot, x.candidate(slot, 0), NONE);
        }
        for (int drawing : NO_DRAWINGS) {
            due("drawing " + drawing, x.candidate(0, drawing), NONE);
        }
        due("none came", x.candidate(0, 0), 1);
    }

    @Says(promise = 25, value = "one that is there")
    static void candidateThatIsThere() {
        WordlessSigns x = told(3, 0);
        for (int d = 0; d < 3; d++) {
            x.candidate(2, d);
        }
        for (int d = 0; d < 3; d++) {
            due("drawing " + d + " again", x.candidate(2, d), NONE);
            due("in another slot", x.candidate(3, d), d + 1);
        }
    }

    @Says(promise = 25, value = "or if there are 4")
    static void candidateWhereThereAreFour() {
        WordlessSigns x = told(6, 0);
        for (int d = 0; d < 4; d++) {
            due("candidate " + d, x.candidate(5, d), d + 1);
        }
        due("the fifth", x.candidate(5, 4), NONE);
        due("the fifth again", x.candidate(5, 5), NONE);
        due("another slot has room", x.candidate(4, 4), 1);
    }

    @Says(promise = 26, value = "A CHOICE: the DRAWING of a SLOT; slot NONE: LEAST FAR")
    static void choiceOfEachSlot() {
        WordlessSigns x = corners(4);
        for (int slot = 0; slot < 4; slot++) {
            x.candidate(slot, 3 - slot);
        }
        due("4 apart", x.choice(NONE), 4);
        for (int slot = 0; slot < 4; slot++) {
            due("slot " + slot, x.choice(slot), 3 - slot);
        }
        x.candidate(4, 0);
        due("0 twice", x.choice(NONE), 0);
        due("the slot", x.choice(4), 0);
    }

    @Says(promise = 26, value = "NONE for others")
    static void choiceOfOthers() {
        WordlessSigns x = corners(4);
        x.candidate(0, 0);
        x.candidate(5, 1);
        for (int slot : new int[] {LEAST, -2, 6, MOST}) {
            due("slot " + slot, x.choice(slot), NONE);
        }
        due("the last", x.choice(5), 1);
    }

    @Says(promise = 26, value = "SLOTS without candidates")
    static void choiceOfASlotWithoutCandidates() {
        WordlessSigns x = corners(4);
        x.candidate(1, 0);
        x.candidate(4, 1);
        for (int slot : new int[] {0, 2, 3, 5}) {
            due("slot " + slot, x.choice(slot), NONE);
        }
        due("slot 1", x.choice(1), 0);
        due("slot 4", x.choice(4), 1);
    }

    @Says(promise = 26, value = "and if fewer than two SLOTS have some")
    static void choiceOfFewerThanTwoSlots() {
        WordlessSigns x = corners(4);
        due("no slot", x.choice(NONE), NONE);
        due("no slot", x.choice(0), NONE);
        x.candidate(3, 0);
        x.candidate(3, 1);
        due("one slot", x.choice(NONE), NONE);
        due("one slot", x.choice(3), NONE);
        x.candidate(0, 2);
        due("two slots", x.choice(NONE), 4);
        due("two slots", x.choice(3), 0);
    }

    @Says(promise = 27, value = "BARS by D (1 .. 999): the SLOT")
    static void barsAtLeastAndAtMost() {
        WordlessSigns x = told(3, 0);
        x.candidate(2, 0);
        x.candidate(4, 1);
        due("alike ones bar 1", x.bars(1), 4);
        x.colour(1, 1);
        x.weights(2, 1, 99, 99);
        circles(x, 0, 6);
        for (int i = 0; i < 3; i++) {
            x.part(1, 2, i, 0);
        }
        due("990 far", x.choice(NONE), 990);
        due("bars 999", x.bars(999), 4);
        x.part(1, 2, 3, 0);
        due("1089 far: 999 is not barred", x.bars(999), NONE);
        x.candidate(0, 2);
        due("2 is 594 and 495 far from them", x.bars(594), 4);
        due("the earlier pair alone", x.bars(595), 2);
    }

    @Says(promise = 27, value = "NONE: none does, and for others")
    static void barsOfOthers() {
        WordlessSigns x = told(2, 0);
        for (int d : new int[] {1, 999}) {
            due("no slot, " + d, x.bars(d), NONE);
        }
        x.candidate(0, 0);
        x.candidate(0, 1);
        due("one slot", x.bars(999), NONE);
        x.candidate(1, 0);
        due("two bar", x.bars(1), 1);
        for (int d : new int[] {LEAST, -1, 0, 1000, MOST}) {
            due("bars(" + d + ")", x.bars(d), NONE);
        }
    }

    @Says(promise = 28, value = "GROUP of a THING that is told: true")
    static void groupsAtTheirBounds() {
        WordlessSigns x = told(0, 12);
        for (int group = 0; group < 6; group++) {
            due("12 of " + group, x.group(12, group), true);
            due("23 of " + group, x.group(23, group), true);
        }
    }

    @Says(promise = 28, value = "False for others")
    static void groupOfOthers() {
        WordlessSigns x = corners(2);
        for (int thing : NO_THINGS) {
            due("thing " + thing, x.group(thing, 1), false);
        }
        for (int group : new int[] {LEAST, -1, 6, MOST}) {
            due("group " + group, x.group(13, group), false);
        }
        x.land(0, 1, 3);
        x.rules(12, 99, 400, 100);
        x.hang(1);
        x.hang(0);
        due("13 is of none", x.among(1, 0, 0), 12);
    }

    @Says(promise = 29, value = "A DRAWING is hung behind the row: how many hang")
    static void hangBehind() {
        WordlessSigns x = corners(3);
        x.land(0, 1, 7);
        due("the first", x.hang(2), 1);
        due("the second", x.hang(0), 2);
        due("one that hangs already", x.hang(2), 3);
        due("about", x.about(6), 3);
        due("in this order", x.among(0, 0, 0), 14);
        due("in this order", x.among(1, 0, 0), 12);
        due("in this order", x.among(2, 0, 0), 14);
    }

    @Says(promise = 29, value = "NONE for others")
    static void hangOthers() {
        WordlessSigns x = told(2, 2);
        for (int drawing : NO_DRAWINGS) {
            due("hang(" + drawing + ")", x.hang(drawing), NONE);
        }
        due("none hangs", x.about(6), 0);
    }

    @Says(promise = 29, value = "or if there are 8")
    static void hangWhereThereAreEight() {
        WordlessSigns x = told(1, 0);
        for (int i = 1; i <= 8; i++) {
            due("hang", x.hang(0), i);
        }
        due("the ninth", x.hang(0), NONE);
        due("eight hang", x.about(6), 8);
        x.unhang();
        due("there is room again", x.hang(0), 1);
    }

    @Says(promise = 30, value = "The row is empty: how many hung")
    static void unhangOfNoneToEight() {
        WordlessSigns x = told(1, 0);
        for (int n = 0; n <= 8; n++) {
            for (int i = 0; i < n; i++) {
                x.hang(0);
            }
            due("unhang", x.unhang(), n);
            due("the row is empty", x.about(6), 0);
            due("none is among", x.among(0, 0, 0), NONE);
        }
    }

    @Says(promise = 31, value = "AMONG: what the i-th of the row is TAKEN for in a LAND at a SITE")
    static void amongTheFirstToTheEighth() {
        WordlessSigns x = corners(4);
        x.land(5, 1, 15);
        x.lean(5, 15, 99);
        for (int i = 0; i < 8; i++) {
            x.hang(i % 4);
        }
        for (int i = 0; i < 8; i++) {
            due("the " + i + "-th", x.among(i, 5, 0), 12 + i % 4);
            due("at site 5", x.among(i, 5, 5), 15);
        }
    }

    @Says(promise = 31, value = "NONE: nothing, and for others")
    static void amongOthers() {
        WordlessSigns x = corners(2);
        x.land(0, 1, 3);
        due("an empty row", x.among(0, 0, 0), NONE);
        x.hang(0);
        x.hang(1);
        due("nothing", x.among(0, 1, 0), NONE);
        due("nothing", x.among(1, 1, 0), NONE);
        for (int i : new int[] {LEAST, -1, 2, 7, 8, MOST}) {
            due("the " + i + "-th", x.among(i, 0, 0), NONE);
        }
        for (int land : NO_LANDS) {
            due("land " + land, x.among(0, land, 0), NONE);
        }
        for (int site : NO_SITES) {
            due("site " + site, x.among(0, 0, site), NONE);
        }
    }

    @Says(promise = 32, value = "BEST ORDER at a SITE: the i-th DRAWING; i NONE: SHARES of RIGHT ones")
    static void orderAtItsBounds() {
        WordlessSigns x = corners(4);
        for (int land = 0; land < 6; land++) {
            x.land(land, 99, 15);
        }
        for (int i = 0; i < 6; i++) {
            x.hang(i % 4);
        }
        due("all shares six times", x.order(0, NONE), 6 * 594);
        due("the first", x.order(0, 0), 0);
        due("the sixth", x.order(0, 5), 1);
        x.lean(5, 12, 99);
        due("at site 5 only 12 is taken: 0 is right twice", x.order(5, NONE), 2 * 594);
        x.rules(12, 4, 500, 100);
        x.teach(3, 2);
        due("memory counts", x.order(5, NONE), 2 * 594 + 99);
    }

    @Says(promise = 32, value = "NONE for others")
    static void orderOfOthers() {
        WordlessSigns x = corners(2);
        x.land(0, 1, 3);
        x.hang(0);
        x.hang(1);
        for (int i : new int[] {LEAST, -2, 2, 6, MOST}) {
            due("the " + i + "-th", x.order(0, i), NONE);
        }
        for (int site : NO_SITES) {
            due("site " + site, x.order(site, 0), NONE);
            due("site " + site, x.order(site, NONE), NONE);
        }
    }

    @Says(promise = 32, value = "an empty row, and more than 6")
    static void orderOfAnEmptyAndOfALongRow() {
        WordlessSigns x = corners(1);
        for (int hung = 0; hung <= 8; hung++) {
            boolean ordered = hung >= 1 && hung <= 6;
            due("shares of " + hung, x.order(0, NONE), ordered ? 0 : NONE);
            due("the first of " + hung, x.order(0, 0), ordered ? 0 : NONE);
            due("the last of " + hung, x.order(0, hung - 1), hung <= 6 ? (ordered ? 0 : NONE) : NONE);
            x.hang(0);
        }
    }

    @Says(promise = 33, value = "WORN by n (0 .. 6): WORST (what 0), the first set (1)")
    static void wornAtItsBounds() {
        WordlessSigns x = told(1, 1);
        x.means(0, 12, false);
        x.land(0, 7, 1);
        due("an empty one by none", x.worn(0, 0, 0, 0), 7);
        due("an empty one by none", x.worn(0, 0, 0, 1), 0);
        circles(x, 0, 6);
        due("six by none: 30 far", x.worn(0, 0, 0, 0), 0);
        due("six by six: 0 far", x.worn(0, 0, 6, 0), 7);
        due("six by six", x.worn(0, 0, 6, 1), 63);
        due("six by four: 10 far", x.worn(0, 5, 4, 0), 7);
        due("six by three: 15 far", x.worn(0, 5, 3, 0), 0);
        x.teach(0, 0);
        x.teach(0, 0);
        due("memory counts", x.worn(0, 5, 3, 0), 7);
    }

    @Says(promise = 33, value = "NONE for others")
    static void wornOfOthers() {
        WordlessSigns x = told(2, 2);
        circles(x, 0, 6);
        for (int drawing : NO_DRAWINGS) {
            due("drawing " + drawing, x.worn(drawing, 0, 0, 0), NONE);
        }
        for (int site : NO_SITES) {
            due("site " + site, x.worn(0, site, 0, 0), NONE);
        }
        for (int n : new int[] {LEAST, -1, 7, MOST}) {
            due("by " + n, x.worn(0, 0, n, 0), NONE);
        }
        for (int what : new int[] {LEAST, -1, 2, MOST}) {
            due("what " + what, x.worn(0, 0, 0, what), NONE);
        }
    }

    @Says(promise = 33, value = "or it has fewer PARTS")
    static void wornOfFewerParts() {
        WordlessSigns x = told(1, 0);
        for (int size = 0; size <= 6; size++) {
            for (int n = 0; n <= 7; n++) {
                due(size + " parts by " + n, x.worn(0, 0, n, 0), n <= size ? 0 : NONE);
                due(size + " parts by " + n, x.worn(0, 0, n, 1), n <= size ? (1 << n) - 1 : NONE);
            }
            x.part(0, 1, size, 0);
        }
    }

    @Says(promise = 34, value = "TOLD in a LAND: MEMORY")
    static void teachTellsTheMemory() {
        WordlessSigns x = told(12, 0);
        due("the first in the first", x.teach(0, 0), 400);
        due("the last in the last", x.teach(11, 5), 400);
        due("again", x.teach(11, 5), 800);
        due("again", x.teach(11, 5), 1000);
        due("the first is as it was", x.teach(0, 0), 800);
    }

    @Says(promise = 34, value = "NONE for others")
    static void teachOfOthers() {
        WordlessSigns x = told(2, 2);
        for (int drawing : NO_DRAWINGS) {
            due("drawing " + drawing, x.teach(drawing, 0), NONE);
        }
        for (int land : NO_LANDS) {
            due("land " + land, x.teach(0, land), NONE);
            due("land " + land, x.teach(1, land), NONE);
        }
        for (int land = 0; land < 6; land++) {
            due("nothing came", x.teach(0, land), 400);
            due("nothing came", x.teach(1, land), 400);
        }
        x.look(false);
        due("nor to one told later", x.teach(2, 0), 400);
    }

    @Says(promise = 35, value = "n WEEKS go by (1 .. 50): n")
    static void weeksFromOneToFifty() {
        WordlessSigns x = told(1, 0);
        x.rules(12, 4, 1000, 1);
        x.teach(0, 0);
        due("one", x.weeks(1), 1);
        x.rules(12, 4, 1, 1);
        due("999 and 1", x.teach(0, 0), 1000);
        due("fifty", x.weeks(50), 50);
        // By a thousandth, cut, it is 999 behind the first week and stays.
        due("999 and 1", x.teach(0, 0), 1000);
        x.rules(12, 4, 1, 500);
        x.weeks(2);
        due("a quarter and 1", x.teach(0, 0), 251);
        x.weeks(50);
        due("1 stays, for its half is cut", x.teach(0, 0), 2);
    }

    @Says(promise = 35, value = "NONE for others")
    static void weeksOfOthers() {
        WordlessSigns x = told(1, 0);
        x.teach(0, 0);
        for (int n : new int[] {LEAST, -50, -1, 0, 51, MOST}) {
            due("weeks(" + n + ")", x.weeks(n), NONE);
        }
        due("none went by", x.teach(0, 0), 800);
    }

    @Says(promise = 36, value = "TELLINGS for n weeks (0 .. 50)")
    static void tellingsForNoneToFiftyWeeks() {
        WordlessSigns x = told(1, 0);
        due("for none", x.tellings(0, 0, 0), 2);
        x.rules(12, 4, 400, 13);
        due("for 50 weeks", x.tellings(0, 0, 50), 3);
        due("it is asked alone", x.tellings(0, 0, 0), 2);
        due("nothing was told", x.teach(0, 0), 400);
        due("one more for none", x.tellings(0, 0, 0), 1);
        due("in another land", x.tellings(0, 5, 0), 2);
    }

    @Says(promise = 36, value = "NONE: not by 100, and for others")
    static void tellingsOfOthers() {
        WordlessSigns x = told(2, 2);
        due("1000 is not enough for 7 weeks", x.tellings(0, 0, 7), NONE);
        due("it is for 6", x.tellings(0, 0, 6), 3);
        x.rules(12, 4, 4, 0);
        due("101 are too many", x.tellings(0, 0, 0), NONE);
        x.teach(0, 0);
        due("496 by 100 and one", x.tellings(0, 0, 0), NONE);
        x.rules(12, 4, 5, 0);
        due("99 more", x.tellings(0, 0, 0), 100);
        for (int drawing : NO_DRAWINGS) {
            due("drawing " + drawing, x.tellings(drawing, 0, 0), NONE);
        }
        for (int land : NO_LANDS) {
            due("land " + land, x.tellings(0, land, 0), NONE);
        }
        for (int n : new int[] {LEAST, -1, 51, MOST}) {
            due(n + " weeks", x.tellings(0, 0, n), NONE);
        }
    }

    @Says(promise = 37, value = "FOR ANYBODY with k THINGS (0 to as many as are told): WORST HARM (what 0), the first set (1)")
    static void anybodyFromNoneToAsManyAsAreTold() {
        WordlessSigns x = told(1, 0);
        for (int things = 0; things <= 12; things++) {
            due("none of " + things, x.anybody(0, 0, 0, 1), 0);
            due("all of " + things, x.anybody(0, 5, things, 1), (1 << things) - 1);
            due("harm with all of " + things, x.anybody(0, 5, things, 0), 1);
            due("one more than " + things, x.anybody(0, 0, things + 1, 0), NONE);
            due("one more than " + things, x.anybody(0, 0, things + 1, 1), NONE);
            x.look(true);
        }
    }

    @Says(promise = 37, value = "NONE for others")
    static void anybodyOfOthers() {
        WordlessSigns x = told(2, 2);
        for (int drawing : NO_DRAWINGS) {
            due("drawing " + drawing, x.anybody(drawing, 0, 0, 0), NONE);
        }
        for (int site : NO_SITES) {
            due("site " + site, x.anybody(0, site, 0, 0), NONE);
        }
        for (int k : new int[] {LEAST, -1, 3, 12, MOST}) {
            due("who knows " + k, x.anybody(0, 0, k, 0), NONE);
        }
        for (int what : new int[] {LEAST, -1, 2, MOST}) {
            due("what " + what, x.anybody(0, 0, 0, what), NONE);
        }
    }

    @Says(promise = 38, value = "BEST FOR ANYBODY of a SET")
    static void bestOfOneAndOfAll() {
        WordlessSigns x = told(12, 12);
        due("of all", x.best(4095, 0, 12), 0);
        due("the last alone", x.best(1 << 11, 5, 0), 11);
        x.means(11, 12, false);
        due("the last is the only right one", x.best(4095, 0, 12), 11);
        due("who knows none: all alike", x.best(4095, 0, 0), 0);
    }

    @Says(promise = 38, value = "NONE for others, and of none")
    static void bestOfOthers() {
        WordlessSigns x = told(2, 2);
        due("both", x.best(3, 0, 2), 0);
        due("of none", x.best(0, 0, 0), NONE);
        for (int set : new int[] {LEAST, -1, 4, 5, 7, 4096, 4099, LEAST + 3, MOST}) {
            due("set " + set, x.best(set, 0, 0), NONE);
        }
        for (int site : NO_SITES) {
            due("site " + site, x.best(3, site, 0), NONE);
        }
        for (int k : new int[] {LEAST, -1, 3, 12, MOST}) {
            due("who knows " + k, x.best(3, 0, k), NONE);
        }
    }
}
