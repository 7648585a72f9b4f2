/** The sentences of promises 12 to 23. */
final class PromisesOfReadings extends Sentences {
    @Says(promise = 12, value = "Twenty bytes come behind the tape, the highest of a first: how many it has")
    static void feedTwentyBytes() {
        WordlessSigns x = told(1, 0);
        // "harm 1234;" from the first byte of a on, then "must 5=6 ;".
        due("the first twenty", x.feed(0x6861726d, 0x20313233, 0x343b6d75, 0x73742035, 0x3d36203b), 20);
        due("a grammar", x.grammar(), 0);
        x.by(0);
        due("harm of the first bytes", x.harm(0, 0, 0), 1234);
        due("must of the last bytes", x.says(0, 1), 0);
        x.feed(0x6861726d, 0x20202020, 0x20202020, 0x20202020, 0x20202020);
        due("forty", x.feed(0x373b2020, 0x20202020, 0x20202020, 0x20202020, 0x20202020), 40);
        x.by(x.grammar());
        due("behind one another", x.harm(0, 0, 0), 7);
        x.feed(-1, LEAST, MOST, 0, 0x80ff7f00);
        due("any bytes come", x.about(8), 20);
        due("they are no token", x.grammar(), NONE);
        due("the first of them", x.fault(1), 0);
    }

    @Says(promise = 12, value = "NONE, and none come, if there would be more than 300")
    static void feedToThreeHundred() {
        WordlessSigns x = new WordlessSigns();
        for (int i = 1; i <= 15; i++) {
            due("feed " + i, x.feed(0x20202020, 0x20202020, 0x20202020, 0x20202020, 0x20202020), 20 * i);
        }
        due("320", x.feed(-1, -1, -1, -1, -1), NONE);
        due("300 stay", x.about(8), 300);
        for (int n = 299; n > 280; n -= 6) {
            due("end(" + n + ")", x.end(n), n);
            due("20 to " + n, x.feed(-1, -1, -1, -1, -1), NONE);
            due("none come", x.about(8), n);
        }
        due("end(281)", x.end(281), 281);
        due("301", x.feed(-1, -1, -1, -1, -1), NONE);
        due("end(280)", x.end(280), 280);
        due("none of them came: blanks alone", x.feed(0x20202020, 0x20202020, 0x20202020, 0x20202020, 0x20202020), 300);
        due("it is read", x.grammar(), 0);
    }

    @Says(promise = 13, value = "The tape has its first n bytes alone: n")
    static void endKeepsTheFirst() {
        WordlessSigns x = told(1, 0);
        feed(x, "harm 12;harm 3;");
        due("as many as there are", x.end(15), 15);
        due("fewer", x.end(8), 8);
        due("the first stay", x.grammar(), 0);
        x.by(0);
        due("they are these", x.harm(0, 0, 0), 12);
        due("none of none", x.end(0), 0);
        feed(x, "harm 12;");
        due("none of some", x.end(0), 0);
        due("none", x.about(8), 0);
        x.end(0);
        due("what follows comes behind them", x.feed(0x6861726d, 0x20353b20, 0x20202020, 0x20202020, 0x20202020), 20);
        x.by(x.grammar());
        due("and is read", x.harm(0, 0, 0), 5);
    }

    @Says(promise = 13, value = "The tape has its first n bytes alone")
    static void whatWasCutOffIsNotRead() {
        String[] texts = {"harm took", "harm 9999", "not 1<", "harm 1;"};
        String[] cut = {"s;", "9;", "=2;", "harm 2;"};
        int[] places = {9, 9, 6, NONE};
        for (int i = 0; i < texts.length; i++) {
            WordlessSigns x = new WordlessSigns();
            feed(x, texts[i] + cut[i]);
            x.end(texts[i].length());
            x.grammar();
            due("fault of " + texts[i], x.fault(0), places[i] == NONE ? 0 : 1);
            due("its place", x.fault(1), places[i]);
        }
    }

    @Says(promise = 13, value = "NONE, and nothing is done, if it has not so many, or n is below 0")
    static void endBeyondTheTape() {
        WordlessSigns x = new WordlessSigns();
        due("of an empty tape", x.end(1), NONE);
        feed(x, "harm 1;");
        for (int n : new int[] {LEAST, -2, -1, 8, 20, 300, 301, MOST}) {
            due("end(" + n + ")", x.end(n), NONE);
            due("nothing is done", x.about(8), 7);
        }
        due("what was cut off is gone", x.end(20), NONE);
        due("it is read", x.grammar(), 0);
        due("it is empty then", x.end(1), NONE);
    }

    @Says(promise = 14, value = "The tape (empty then) is a GRAMMAR: its number")
    static void grammarEmptiesTheTape() {
        WordlessSigns x = new WordlessSigns();
        due("the empty tape is one, too", x.grammar(), 0);
        feed(x, "harm 1;");
        due("the next", x.grammar(), 1);
        due("the tape is empty", x.about(8), 0);
        due("two", x.about(3), 2);
        due("THE GRAMMAR is told by by", x.about(4), NONE);
        due("the empty tape again", x.grammar(), 2);
    }

    @Says(promise = 14, value = "NONE: it has a FAULT")
    static void faultyTextIsNoGrammar() {
        WordlessSigns x = told(1, 0);
        due("a fault", read(x, "harm 7;harm"), NONE);
        due("the tape is empty", x.about(8), 0);
        due("there is none", x.about(3), 0);
        due("nor can it be told", x.by(0), false);
        readBy(x, "must 1=1;");
        due("nothing of it is left", x.harm(0, 0, 0), 1);
        read(x, "not 1=1;must 1=2;foo");
        readBy(x, "harm 3;");
        due("no not of it is left", x.says(0, 0), 0);
        due("no must of it is left", x.says(0, 1), 1);
        read(x, "not ((((((((1=1 or 1+2*3");
        read(x, "harm --------");
        x.back();
        x.look(false);
        readBy(x, "must ((((((((1=1))))))));");
        due("what was open is shut", x.says(0, 1), 1);
        read(x, "harm 1+2*--------");
        readBy(x, "harm --------5;");
        due("no minus of it is left", x.harm(0, 0, 0), 5);
        for (int i = 0; i < 5; i++) {
            read(x, "harm 1" + "+1".repeat(147));
        }
        readBy(x, "harm 1" + "+1".repeat(146) + ";");
        due("long ones take no room of the next", x.harm(0, 0, 0), 147);
        x.by(0);
        due("a fault later", read(x, "harm"), NONE);
        due("THE GRAMMAR stays", x.about(4), 0);
    }

    @Says(promise = 14, value = "or (the tape stays) there are 4")
    static void tapeStaysWhereThereAreFour() {
        WordlessSigns x = told(1, 0);
        for (int i = 0; i < 4; i++) {
            read(x, "harm " + (i + 1) + ";");
        }
        feed(x, "foo");
        due("the fifth", x.grammar(), NONE);
        due("the tape stays", x.about(8), 3);
        due("it was not read", x.fault(0), 0);
        feed(x, "harm 9;");
        due("the fifth again", x.grammar(), NONE);
        due("the tape stays", x.about(8), 7);
        for (int i = 0; i < 4; i++) {
            x.by(i);
            due("the four are as they were", x.harm(0, 0, 0), i + 1);
        }
        x.back();
        due("behind back there is room for it", x.grammar(), 0);
    }

    @Says(promise = 15, value = "Of the latest text that was read: 0 its FAULT (0 without), 1 its place (NONE without)")
    static void faultOfTheLatestText() {
        WordlessSigns x = new WordlessSigns();
        read(x, "harm 10000;");
        due("fault", x.fault(0), 2);
        due("place", x.fault(1), 5);
        feed(x, "foo");
        due("what is not read yet has none", x.fault(0), 2);
        x.grammar();
        due("the latest", x.fault(0), 1);
        due("its place is 0", x.fault(1), 0);
        read(x, "harm 1;");
        due("without", x.fault(0), 0);
        due("without", x.fault(1), NONE);
        read(x, "harm " + "1+".repeat(147) + "1");
        due("at the end of a full tape", x.fault(0), 1);
        due("at the end of a full tape", x.fault(1), 300);
    }

    @Says(promise = 15, value = "NONE for others, and ahead of any")
    static void faultAheadOfAnyAndOfOthers() {
        WordlessSigns x = new WordlessSigns();
        due("ahead of any", x.fault(0), NONE);
        due("ahead of any", x.fault(1), NONE);
        feed(x, "foo");
        due("ahead of its reading", x.fault(0), NONE);
        x.grammar();
        for (int what : new int[] {LEAST, -2, -1, 2, 3, MOST}) {
            due("fault(" + what + ")", x.fault(what), NONE);
        }
    }

    @Says(promise = 16, value = "THE GRAMMAR is one of these (NONE: none): true")
    static void byOneAndByNone() {
        WordlessSigns x = told(1, 0);
        due("none of none", x.by(NONE), true);
        for (int i = 0; i < 4; i++) {
            read(x, "harm " + (i + 2) + ";");
            due("by(" + i + ")", x.by(i), true);
            due("about", x.about(4), i);
            due("its harm", x.harm(0, 0, 0), i + 2);
        }
        due("by the first", x.by(0), true);
        due("its harm", x.harm(0, 0, 0), 2);
        due("by none", x.by(NONE), true);
        due("about", x.about(4), NONE);
        due("harm without", x.harm(0, 0, 0), 1);
    }

    @Says(promise = 16, value = "False for others")
    static void byOthers() {
        WordlessSigns x = new WordlessSigns();
        due("where there is none", x.by(0), false);
        readBy(x, "harm 2;");
        for (int grammar : new int[] {LEAST, -2, 1, 3, 4, MOST}) {
            due("by(" + grammar + ")", x.by(grammar), false);
            due("it stays", x.about(4), 0);
        }
        x.image();
        read(x, "harm 3;");
        due("the second", x.by(1), true);
        x.back();
        due("gone behind back", x.by(1), false);
    }

    @Says(promise = 17, value = "TAKEN for: its LOOK (12 .. 23)")
    static void takenForTheFirstAndTheLast() {
        WordlessSigns x = told(12, 12);
        x.land(0, 1, 1);
        x.land(5, 1, 2048);
        due("12", x.taken(0, 0, 0), 12);
        due("23", x.taken(11, 5, 5), 23);
    }

    @Says(promise = 17, value = "NONE: nothing")
    static void takenForNothing() {
        WordlessSigns x = corners(2);
        due("none known", x.taken(0, 0, 0), NONE);
        x.land(0, 1, 2);
        x.rules(3, 4, 400, 100);
        due("above the limit", x.taken(0, 0, 0), NONE);
    }

    /** Every wrong one of each argument of a reading; a right reading answers another than NONE. */
    private static void readings(String name, java.util.function.BiFunction<WordlessSigns, int[], Integer> call) {
        int[][] bad = {{LEAST, -1, 2, 11, 12, 24, MOST}, {LEAST, -1, 6, MOST}, {LEAST, -1, 6, MOST}};
        WordlessSigns x = corners(2);
        for (int land = 0; land < 6; land++) {
            x.land(land, 1, 3);
        }
        due(name + " of the first", call.apply(x, new int[] {0, 0, 0}) != NONE, true);
        due(name + " of the last", call.apply(x, new int[] {1, 5, 5}) != NONE, true);
        for (int i = 0; i < 3; i++) {
            for (int v : bad[i]) {
                int[] args = {0, 0, 0};
                args[i] = v;
                due(name + " with argument " + i + " of " + v, call.apply(x, args), NONE);
            }
        }
    }

    @Says(promise = 17, value = "and for others")
    static void takenOfOthers() {
        readings("taken", (x, a) -> x.taken(a[0], a[1], a[2]));
    }

    @Says(promise = 18, value = "Of a DRAWING: 0 whether THE GRAMMAR says not, 1 whether it is of it (1, 0)")
    static void saysOneOrZero() {
        WordlessSigns x = told(2, 0);
        x.part(1, 1, 0, 0);
        readBy(x, "not circles=1;must circles=0;");
        due("not of 0", x.says(0, 0), 0);
        due("0 is of it", x.says(0, 1), 1);
        due("not of 1", x.says(1, 0), 1);
        due("1 is not of it", x.says(1, 1), 0);
    }

    @Says(promise = 18, value = "NONE for others")
    static void saysOfOthers() {
        WordlessSigns x = told(2, 2);
        for (int drawing : new int[] {LEAST, -1, 2, 11, 12, 24, MOST}) {
            due("of drawing " + drawing, x.says(drawing, 0), NONE);
            due("of drawing " + drawing, x.says(drawing, 1), NONE);
        }
        for (int what : new int[] {LEAST, -1, 2, MOST}) {
            due("what " + what, x.says(0, what), NONE);
        }
    }

    @Says(promise = 19, value = "Whether it is RIGHT in a LAND at a SITE (1, 0; MEMORY counts)")
    static void rightByReadingOrByMemory() {
        WordlessSigns x = corners(2);
        x.land(0, 0, 3);
        x.lean(5, 13, 99);
        due("at site 0, without a share too", x.right(0, 0, 0), 1);
        due("at site 5", x.right(0, 0, 5), 0);
        due("in another land", x.right(0, 5, 0), 0);
        x.teach(0, 5);
        due("memory of 400", x.right(0, 5, 0), 0);
        x.teach(0, 5);
        due("memory of 800", x.right(0, 5, 0), 1);
        x.weeks(5);
        due("it was forgotten", x.right(0, 5, 0), 0);
    }

    @Says(promise = 19, value = "NONE for others")
    static void rightOfOthers() {
        readings("right", (x, a) -> x.right(a[0], a[1], a[2]));
    }

    @Says(promise = 20, value = "HARM (MEMORY counts)")
    static void harmGoesWithMemory() {
        WordlessSigns x = corners(1);
        readBy(x, "harm 9999*9999;");
        due("the greatest", x.harm(0, 3, 0), 1000000);
        x.rules(12, 4, 500, 1);
        x.teach(0, 3);
        due("memory of 500", x.harm(0, 3, 0), 0);
        due("in another land", x.harm(0, 2, 0), 1000000);
        x.rules(12, 4, 500, 2);
        x.weeks(1);
        due("memory of 499", x.harm(0, 3, 0), 1000000);
    }

    @Says(promise = 20, value = "NONE for others")
    static void harmOfOthers() {
        readings("harm", (x, a) -> x.harm(a[0], a[1], a[2]));
    }

    @Says(promise = 21, value = "At a SITE: 0 ALL HARM, 1 SHARES by which it is RIGHT, 2 all SHARES")
    static void oddsOfThreeKinds() {
        WordlessSigns x = corners(2);
        x.land(0, 10, 3);
        x.land(5, 20, 2);
        x.lean(5, 13, 99);
        readBy(x, "harm 3;");
        due("all harm", x.odds(0, 0, 0), 60);
        due("right", x.odds(0, 0, 1), 10);
        due("all", x.odds(0, 0, 2), 30);
        due("all harm at 5", x.odds(0, 5, 0), 90);
        due("right at 5", x.odds(0, 5, 1), 0);
        x.teach(0, 5);
        x.teach(0, 5);
        due("memory counts: harm", x.odds(0, 0, 0), 0);
        due("memory counts: right", x.odds(0, 0, 1), 30);
    }

    @Says(promise = 21, value = "NONE for others")
    static void oddsOfOthers() {
        WordlessSigns x = corners(2);
        x.land(0, 1, 3);
        for (int what = 0; what < 3; what++) {
            for (int drawing : new int[] {LEAST, -1, 2, 11, 12, 24, MOST}) {
                due("of drawing " + drawing, x.odds(drawing, 0, what), NONE);
            }
            for (int site : new int[] {LEAST, -1, 6, MOST}) {
                due("site " + site, x.odds(0, site, what), NONE);
            }
        }
        for (int what : new int[] {LEAST, -1, 3, MOST}) {
            due("what " + what, x.odds(0, 0, what), NONE);
        }
    }

    @Says(promise = 22, value = "A PART comes to the list: how many it has")
    static void stockIsCounted() {
        WordlessSigns x = new WordlessSigns();
        due("the least of all", x.stock(0, 0, 0), 1);
        due("the greatest of all", x.stock(4, 8, 3), 2);
        due("about", x.about(5), 2);
    }

    @Says(promise = 22, value = "NONE for others")
    static void stockOfOthers() {
        WordlessSigns x = new WordlessSigns();
        for (int kind : new int[] {LEAST, -1, 5, MOST}) {
            due("kind " + kind, x.stock(kind, 0, 0), NONE);
        }
        for (int place : new int[] {LEAST, -1, 9, MOST}) {
            due("place " + place, x.stock(0, place, 0), NONE);
        }
        for (int way : new int[] {LEAST, -1, 4, MOST}) {
            due("way " + way, x.stock(0, 0, way), NONE);
        }
        due("none came", x.about(5), 0);
    }

    @Says(promise = 22, value = "one that is there")
    static void stockThatIsThere() {
        WordlessSigns x = new WordlessSigns();
        for (int i = 0; i < 9; i++) {
            x.stock(4 - i % 5, 8 - i, 3 - i % 4);
        }
        for (int i = 0; i < 9; i++) {
            due("the " + i + "-th again", x.stock(4 - i % 5, 8 - i, 3 - i % 4), NONE);
        }
        due("unlike in its way alone", x.stock(4, 8, 2), 10);
    }

    @Says(promise = 22, value = "or if there are 10")
    static void stockWhereThereAreTen() {
        WordlessSigns x = new WordlessSigns();
        for (int i = 0; i < 10; i++) {
            due("stock " + i, x.stock(i % 5, i % 9, 0), i + 1);
        }
        due("the 11th", x.stock(4, 8, 3), NONE);
        due("ten stay", x.about(5), 10);
    }

    @Says(promise = 23, value = "MADE (MEMORY as it is): the set (what 0), its ALL HARM (1); the DRAWING is that then (what 2: how many PARTS)")
    static void madeIsDrawnByTwoAlone() {
        WordlessSigns x = corners(2);
        x.land(0, 10, 3);
        x.land(1, 5, 2);
        x.means(0, 13, false);
        x.stock(3, 3, 3);
        x.stock(1, 2, 0);
        x.image();
        due("the set", x.made(0, 0, 0), 2);
        due("its harm", x.made(0, 0, 1), 0);
        due("the drawing is as it was", x.far(0, 12), 0);
        due("drawn", x.made(0, 0, 2), 1);
        due("it is that", x.far(0, 13), 0);
        due("the list stays", x.about(5), 2);
        x.back();
        due("and back", x.far(0, 12), 0);
        x.rules(12, 4, 1000, 0);
        x.teach(0, 0);
        due("memory in one land of two", x.made(0, 0, 0), 0);
        x.rules(4, 4, 1000, 0);
        due("the other needs it", x.made(0, 0, 0), 2);
        x.teach(0, 1);
        due("memory in both: the empty set", x.made(0, 0, 0), 0);
        due("drawn without parts", x.made(0, 0, 2), 0);
        due("it has none", x.about(20), 0);
    }

    @Says(promise = 23, value = "NONE: none, and for others")
    static void madeOfOthers() {
        WordlessSigns x = corners(2);
        x.stock(1, 0, 0);
        readBy(x, "must parts=2;");
        for (int what = 0; what < 3; what++) {
            due("none", x.made(0, 0, what), NONE);
        }
        due("it is as it was", x.about(20), 1);
        x.by(NONE);
        for (int what = 0; what < 3; what++) {
            for (int drawing : new int[] {LEAST, -1, 2, 11, 12, 24, MOST}) {
                due("of drawing " + drawing, x.made(drawing, 0, what), NONE);
            }
            for (int site : new int[] {LEAST, -1, 6, MOST}) {
                due("site " + site, x.made(0, site, what), NONE);
            }
        }
        for (int what : new int[] {LEAST, -1, 3, MOST}) {
            due("what " + what, x.made(0, 0, what), NONE);
        }
        due("it is as it was", x.about(20), 1);
    }
}
