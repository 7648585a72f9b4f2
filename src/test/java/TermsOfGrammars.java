/** The Terms, part II: texts, what they say, and their FAULTS. */
final class TermsOfGrammars extends Sentences {
    @Says("GRAMMARS 0 .. 3: texts of up to 300 bytes")
    static void fourGrammarsAndNoFifth() {
        WordlessSigns x = new WordlessSigns();
        for (int i = 0; i < 4; i++) {
            due("grammar " + i, read(x, "harm " + i + ";"), i);
        }
        due("the fifth", read(x, "harm 4;"), NONE);
        due("four stay", x.about(3), 4);
        due("by(3)", x.by(3), true);
        due("by(4)", x.by(4), false);
    }

    @Says("texts of up to 300 bytes")
    static void textsOfAllLengths() {
        stands("");
        stands(" ".repeat(300));
        stands("harm " + "0".repeat(294) + ";");
        fault("harm " + "0".repeat(295), 1, 300);
        stands("harm 1" + "*1".repeat(146) + " ;");
        stands("not 1=1" + " ".repeat(292) + ";");
        fault("not 1=1" + " ".repeat(293), 1, 300);
    }

    @Says("blanks (32, 10) aside")
    static void blanksAreSpaceAndNewLineAlone() {
        stands(" \n not \n lines \n = \n 1 \n ; \n ");
        for (int sign : new int[] {0, 9, 11, 12, 13, 31, 33, 127, 160, 255}) {
            fault("not " + (char) sign + "lines=1;", 1, 4);
        }
    }

    @Says("letters a .. z, A .. Z one behind the other (one TOKEN)")
    static void lettersAreOneToken() {
        fault("notlines=1;", 1, 0);
        fault("not lines circles=1;", 1, 10);
        fault("not linescircles=1;", 1, 4);
        for (char letter : new char[] {'a', 'z', 'A', 'Z'}) {
            fault("not lines" + letter + "=1;", 1, 4);
        }
        // The signs beside the letters end the word and are none themselves.
        for (char sign : new char[] {'`', '{', '@', '['}) {
            fault("not lines" + sign + "=1;", 1, 9);
        }
    }

    @Says("letters a .. z, A .. Z")
    static void greatLettersMakeOtherWords() {
        fault("Not 1=1;", 1, 0);
        fault("not LINES=1;", 1, 4);
        fault("not 1=1 OR 1=1;", 1, 8);
    }

    @Says("digits likewise (NUMBERS, 0 .. 9999)")
    static void digitsAreOneToken() {
        sum("0", 0);
        sum("9", 9);
        sum("9999", 9999);
        sum("09", 9);
        sum("0000000009999", 9999);
        fault("harm 1 2;", 1, 7);
        // The signs beside the digits are none.
        fault("harm 1/;", 1, 6);
        fault("harm 1:;", 1, 6);
        stands("not 1=1and 2=2;");
        fault("not 1=1a;", 1, 7);
    }

    @Says("<= >= < > = # + - * ( ) ; (the longest)")
    static void longestSignsFirst() {
        ask("2<=2", true);
        ask("2>=2", true);
        fault("not 2< =2;", 1, 7);
        fault("not 2> =2;", 1, 7);
        fault("not 2=<2;", 1, 6);
        fault("not 2=>2;", 1, 6);
        fault("not 2==2;", 1, 6);
        fault("not 2<>2;", 1, 6);
        fault("not 2<==2;", 1, 7);
        fault("not 2<", 1, 6);
        fault("not 2<=", 1, 7);
    }

    @Says("{CLAUSE}, 10 at most")
    static void clausesFromNoneToTen() {
        stands("");
        stands("must 1=1;");
        stands("must 1=1;".repeat(10));
        fault("must 1=1;".repeat(11), 6, 90);
        WordlessSigns x = told(1, 0);
        readBy(x, "must 1=1;".repeat(9) + "must 1=2;");
        due("the tenth counts", x.says(0, 1), 0);
        readBy(x, "not 1=2;".repeat(9) + "not 1=1;");
        due("the tenth counts", x.says(0, 0), 1);
        readBy(x, "must 1=1;".repeat(10));
        due("ten of them", x.says(0, 1), 1);
        readBy(x, "not 1=2;".repeat(9) + "harm 7;");
        due("the tenth counts", x.harm(0, 0, 0), 7);
    }

    @Says("not EITHER ; or must EITHER ; or harm SUM ; (once)")
    static void clausesOfThreeSorts() {
        stands("not 1=1;must 1=1;harm 1;not 1=1;must 1=1;");
        fault("harm 1;harm 1;", 4, 7);
        fault("lines=1;", 1, 0);
        fault("not 1=1", 1, 7);
        fault("harm 1", 1, 6);
        fault("harm;", 1, 4);
        fault("not;", 1, 3);
        fault("must;", 1, 4);
        fault(";", 1, 0);
        fault("harm 1;;", 1, 7);
        fault("harm 1=1;", 1, 6);
        fault("not 1;", 1, 5);
        fault("harm (1);", 1, 5);
        fault("harm 1);", 1, 6);
    }

    @Says("EITHER: BOTH {or BOTH}")
    static void orBindsLess() {
        ask("1=1 or 1=1 and 1=2", true);
        ask("1=2 and 1=1 or 1=1", true);
        ask("1=2 or 1=2", false);
        ask("1=2 or 1=1", true);
        ask("1=1 or 1=2", true);
        ask("1=2 or 1=2 or 1=1", true);
        fault("not or 1=1;", 1, 4);
        fault("not 1=1 or;", 1, 10);
    }

    @Says("BOTH: ASK {and ASK}")
    static void andNeedsAll() {
        ask("1=1 and 1=1", true);
        ask("1=1 and 1=2", false);
        ask("1=2 and 1=1", false);
        ask("1=1 and 1=1 and 1=2", false);
        fault("not and 1=1;", 1, 4);
        fault("not 1=1 and or 1=1;", 1, 12);
    }

    @Says("ASK: ( EITHER ), or SUM one of < <= > >= = # (unlike) SUM")
    static void asksAtTheirEdges() {
        String[] signs = {"<", "<=", ">", ">=", "=", "#"};
        for (int i = 0; i < signs.length; i++) {
            for (int right = 1; right <= 3; right++) {
                boolean[] want = {2 < right, 2 <= right, 2 > right, 2 >= right, 2 == right, 2 != right};
                ask("2" + signs[i] + right, want[i]);
                ask("-" + right + signs[i] + "-2", want[i]);
            }
        }
        String[] so = {"1<2", "2<=2", "2>1", "2>=2", "2=2", "1#2"};
        for (String one : so) {
            for (String other : so) {
                ask(one + " and " + other, true);
            }
        }
        // The sums at both sides are whole before they are compared.
        for (String no : new String[] {"3<1+1", "3<=1+1", "1>1+1", "1>=1+1", "1=1+1", "2#1+1", "1+1#2", "2*2#4", "4#2*2"}) {
            ask(no, false);
        }
        ask("(1=1)", true);
        ask("1=2 or (1=1)", true);
        ask("1=1 and ((1=2 or 1=1) and (1=1))", true);
        ask("(1=1 or 1=1) and 1=2", false);
        ask("1=2 and (1=1 or 1=1)", false);
        fault("not (1=1;", 1, 8);
        fault("not 1=1);", 1, 7);
        fault("not ();", 1, 5);
        fault("not (1)=1;", 1, 6);
        fault("not -(1=1);", 1, 5);
        fault("not 1=(1);", 1, 6);
        fault("not 1=1=1;", 1, 7);
        fault("not (1=1)=1;", 1, 9);
        fault("not (1=1)+1=2;", 1, 9);
        fault("not (1=1)(1=1);", 1, 9);
    }

    @Says("SUM: PRODUCT {+ or - PRODUCT}")
    static void sumsFromTheLeft() {
        sum("10-3-2", 5);
        sum("10-3+2", 9);
        sum("2+3*4-1", 13);
        fault("harm 1+;", 1, 7);
        fault("harm +1;", 1, 5);
        fault("harm 1++1;", 1, 7);
    }

    @Says("PRODUCT: ONE {* ONE}")
    static void productsBindMore() {
        sum("2*3", 6);
        sum("2*3*4", 24);
        sum("20-2*3", 14);
        fault("harm *1;", 1, 5);
        fault("harm 1*;", 1, 7);
        fault("harm 1**1;", 1, 7);
    }

    @Says("ONE: NUMBER, NAME, - ONE (sums have no signs around them)")
    static void minusOfOneAlone() {
        sum("-2*-3", 6);
        sum("--7", 7);
        sum("5--2", 7);
        sum("10+-2*3", 4);
        sum("1--lines", 3);
        fault("harm -(1+2);", 1, 6);
        fault("harm (1+2);", 1, 5);
        fault("harm 2*(1+2);", 1, 7);
        fault("harm -;", 1, 6);
    }

    @Says("lines circles bars arrows fills (how many of a KIND), parts, colour")
    static void namesOfTheDrawing() {
        sum("lines*1000+circles*100+bars*10+arrows", 2000);
        sum("fills*10+parts", 13);
        sum("colour", 3);
        String[] names = {"lines", "circles", "bars", "arrows", "fills"};
        for (int kind = 0; kind < 5; kind++) {
            WordlessSigns x = told(2, 0);
            for (int i = 0; i < 6; i++) {
                x.part(0, kind, i, 0);
            }
            readBy(x, "not " + names[kind] + "=6 and parts=6;must " + names[kind] + "=0 and parts=0;");
            due("six " + names[kind], x.says(0, 0), 1);
            due("no " + names[kind], x.says(1, 1), 1);
        }
    }

    @Says("means (of the THING: 0 .. 11; -1 none)")
    static void meansAsANumber() {
        WordlessSigns x = told(1, 12);
        readBy(x, "not means=11;must means=0;");
        readBy(x, "not means=-1;");
        due("none at first", x.says(0, 0), 1);
        x.means(0, 23, false);
        due("not none", x.says(0, 0), 0);
        x.by(0);
        due("23 is 11", x.says(0, 0), 1);
        x.means(0, 12, true);
        due("12 is 0", x.says(0, 1), 1);
    }

    @Says("took (THING 0 .. 11; -1 nothing)")
    static void tookAsANumber() {
        WordlessSigns x = told(1, 12);
        readBy(x, "harm 2+took;");
        due("nothing", x.harm(0, 0, 0), 1);
        x.land(0, 1, 2048);
        due("23 is 11", x.harm(0, 0, 0), 13);
        x.land(0, 1, 1);
        due("12 is 0", x.harm(0, 0, 0), 2);
    }

    @Says("turned (1: not by the one, not by the other, else 0)")
    static void turnedIfOneOfThemSaysNot() {
        WordlessSigns x = corners(2);
        x.land(0, 1, 2);
        read(x, "harm 5+turned;");
        read(x, "not 1=1;harm 5+turned;");
        boolean[] both = {false, true};
        for (boolean meant : both) {
            for (int said = 0; said < 2; said++) {
                x.means(0, 12, meant);
                x.by(said);
                due("meant " + meant + ", said " + said, x.harm(0, 0, 0), meant == (said == 1) ? 5 : 6);
            }
        }
    }

    @Says("land, site")
    static void landAndSiteAsNumbers() {
        WordlessSigns x = told(1, 0);
        readBy(x, "harm 10*land+site;");
        due("the first of both", x.harm(0, 0, 0), 0);
        due("the last of both", x.harm(0, 5, 5), 55);
        due("each for itself", x.harm(0, 1, 4), 14);
    }

    @Says("From the left; what is above 1000000 (below the same less) is that, at each step")
    static void numbersStopAtAMillion() {
        sum("1000*1000", 1000000);
        sum("1000*1000-1", 999999);
        sum("1000*1000+1-1", 999999);
        sum("1000*1000*2-1", 999999);
        sum("9999*9999*9999*9999*9999-1", 999999);
        sum("9999*9999-9999*9999", 0);
        sum("1000*-1000+1000*1000", 0);
        sum("1000*-1000-1+1000*1000", 0);
        sum("9999*-9999+1000*1000+3", 3);
        sum("-9999*9999*9999*-1", 1000000);
        sum("1001*999+1000", 1000000);
        sum("1001*999", 999999);
        ask("1000*1000+1=1000*1000", true);
        ask("0-1000*1000-1=0-1000*1000", true);
        ask("999*1000+999<1000*1000", true);
        ask("9999*9999*9999*9999=1000*1000", true);
    }

    @Says("or and and look at both sides always")
    static void faultsAreFoundOnBothSides() {
        ask("1=1 or 9999*9999*9999=1", true);
        ask("1=2 and 9999*9999*9999=1", false);
        fault("not 1=1 or took=1;", 5, 11);
        fault("not 1=2 and 10000=1;", 2, 12);
    }

    @Says("THE GRAMMAR says not, if one of its not clauses is so")
    static void oneNotIsEnough() {
        WordlessSigns x = told(1, 0);
        readBy(x, "must 1=1;harm 1;");
        due("without a not clause", x.says(0, 0), 0);
        readBy(x, "not 1=2;not 1=2;");
        due("none of them", x.says(0, 0), 0);
        readBy(x, "not 1=1;not 1=2;");
        due("the first", x.says(0, 0), 1);
        readBy(x, "not 1=2;must 1=2;not 1=1;");
        due("the last", x.says(0, 0), 1);
    }

    @Says("a DRAWING is of it, if all its must clauses are so")
    static void allMustsAreNeeded() {
        WordlessSigns x = told(1, 0);
        readBy(x, "not 1=2;harm 1;");
        due("without a must clause", x.says(0, 1), 1);
        readBy(x, "must 1=1;must 1=1;");
        due("all of them", x.says(0, 1), 1);
        readBy(x, "must 1=2;must 1=1;");
        due("not the first", x.says(0, 1), 0);
        readBy(x, "must 1=1;not 1=1;must 1=2;");
        due("not the last", x.says(0, 1), 0);
    }

    @Says("HARM of a reading that isn't RIGHT: harm (without 1; 0 at least); of a RIGHT one 0")
    static void harmAtItsEdges() {
        WordlessSigns x = corners(1);
        x.land(0, 1, 1);
        read(x, "must 1=1;");
        read(x, "harm 5;");
        read(x, "harm 0-5;");
        x.by(0);
        due("without harm", x.harm(0, 1, 0), 1);
        due("right, without harm", x.harm(0, 0, 0), 0);
        x.by(1);
        due("harm 5", x.harm(0, 1, 0), 5);
        due("right, harm 5", x.harm(0, 0, 0), 0);
        x.by(2);
        due("0 at least", x.harm(0, 1, 0), 0);
        due("not right all the same", x.right(0, 1, 0), 0);
    }

    @Says("FAULTS, the first as TOKENS are come to, at the TOKEN's first byte (of the end at the length), of one the least")
    static void faultsByPlaceThenByNumber() {
        fault("not took=10000;", 5, 4);
        fault("not 10000=took;", 2, 4);
        fault("not  \n 10000=1;", 2, 7);
        fault("not 1=1", 1, 7);
        fault("not 1=1  \n", 1, 10);
        fault("not", 1, 3);
        // Where it can't stand, it is 1 whatever else it is.
        fault("10000", 1, 0);
        fault("not 1 10000;", 1, 6);
        fault("took", 1, 0);
        fault("not 1 took=1;", 1, 6);
        fault("harm 1;not 1=1 harm 1;", 1, 15);
        fault("not ((((((((1=(1))))))));", 1, 14);
        // The 11th clause is harm again: 4 is less than 6.
        fault("harm 1;" + "not 1=1;".repeat(9) + "harm 1;", 4, 79);
    }

    @Says("1 it can't stand there, or is none")
    static void whatIsNoToken() {
        for (char sign : new char[] {'!', '"', '$', '%', '&', '\'', ',', '.', '/', ':', '?', '_', '~'}) {
            fault("harm 1" + sign + ";", 1, 6);
        }
        fault("harm foo;", 1, 5);
        fault("harm -foo;", 1, 6);
        fault("not (foo=1);", 1, 5);
        fault("not (!=1);", 1, 5);
        fault("harm or;", 1, 5);
        fault("not line=1;", 1, 4);
        fault("not no=1;", 1, 4);
        fault("harms 1;", 1, 0);
        fault("har 1;", 1, 0);
        fault("harm 1;o", 1, 7);
        fault("harm 1;" + (char) 0, 1, 7);
        fault("harm 1;" + (char) 128, 1, 7);
        fault("harm 1;" + (char) 255, 1, 7);
        fault("not d=1;", 1, 4);
        fault("not s=1;", 1, 4);
    }

    @Says("2 a NUMBER above 9999")
    static void numbersAboveNineThousandNineHundredNinetyNine() {
        stands("harm 9999;");
        fault("harm 10000;", 2, 5);
        fault("harm 0010000;", 2, 5);
        fault("harm 4294967296;", 2, 5);
        fault("harm 4294967297;", 2, 5);
        fault("harm 18446744073709551617;", 2, 5);
        fault("harm " + "9".repeat(295), 2, 5);
        fault("harm -10000;", 2, 6);
    }

    @Says("3 the 9th of ( and - (of one ONE) that are open around one another (at it)")
    static void eightOpenAndNoNinth() {
        stands("must ((((((((1=1))))))));");
        fault("must (((((((((1=1)))))))));", 3, 13);
        stands("harm --------1;");
        fault("harm ---------1;", 3, 13);
        stands("must (((((((-1=1)))))));");
        stands("must (((((((1=-1)))))));");
        fault("must ((((((((-1=1))))))));", 3, 13);
        fault("must ((((((((1=-1))))))));", 3, 15);
        stands("must (((--1=----1)));");
        fault("must (((1=------1)));", 3, 15);
        // Those that are shut again, and the minus of another ONE, are not around it.
        stands("must ((((1=1)))) and ((((((((1=1))))))));");
        stands("harm --------1*--------1+--------1---------1;");
        stands("must (((((((-1+-1=-1*-1)))))));");
        fault("must ((((((((1-1=1-1)))))))) and (((((((((", 3, 41);
        // The minus between two has nothing to do with it.
        stands("must ((((((((1-1=1-1))))))));");
    }

    @Says("4 harm for the second time (at it)")
    static void harmTwice() {
        fault("harm 1;harm 1;", 4, 7);
        fault("harm 1; \n harm", 4, 10);
        fault("harm 1;not 1=1;must 1=1;harm 1;", 4, 24);
        fault("harm 1 harm 1;", 1, 7);
    }

    @Says("5 took, turned, land, site elsewhere than in harm (at it)")
    static void namesOfHarmElsewhere() {
        String[] names = {"took", "turned", "land", "site"};
        for (String name : names) {
            stands("harm " + name + ";");
            fault("not " + name + "=1;", 5, 4);
            fault("must " + name + "=1;", 5, 5);
            fault("not 1=" + name + ";", 5, 6);
            fault("not (1=1 and -" + name + "=1);", 5, 14);
            fault("harm " + name + ";not " + name + "=1;", 5, 10 + name.length());
            stands("not 1=1;harm 1+-" + name + "*2;");
        }
    }

    @Says("6 the 11th CLAUSE (at its first TOKEN)")
    static void eleventhClause() {
        String ten = "not 1=1;".repeat(10);
        stands(ten);
        stands(ten + " \n");
        fault(ten + "not 1=1;", 6, 80);
        fault(ten + " \nmust", 6, 82);
        fault(ten + "harm", 6, 80);
        fault(ten + "lines", 1, 80);
        fault(ten + ";", 1, 80);
    }

    @Says("THE GRAMMAR: one of these (told; at first none: never not, each is of it, HARM 1)")
    static void noGrammarAtFirst() {
        WordlessSigns x = told(2, 0);
        x.part(1, 1, 0, 0);
        read(x, "not 1=1;must 1=2;harm 9;");
        due("none is told", x.about(4), NONE);
        for (int d = 0; d < 2; d++) {
            due("never not", x.says(d, 0), 0);
            due("each is of it", x.says(d, 1), 1);
            due("harm 1", x.harm(d, 0, 0), 1);
        }
        x.by(0);
        due("told: not", x.says(0, 0), 1);
        due("told: not of it", x.says(0, 1), 0);
        due("told: harm", x.harm(0, 0, 0), 9);
        x.by(NONE);
        due("none again", x.harm(0, 0, 0), 1);
    }
}
