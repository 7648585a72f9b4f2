import java.io.IOException;
import java.lang.reflect.Method;
import java.lang.reflect.Modifier;
import java.nio.file.Files;
import java.nio.file.Path;
import java.util.List;

/** The README's examples: each of their lines stands here too, and answers what the README says. */
public final class ReadmeExamples {
    private static int wrong;

    private ReadmeExamples() {
    }

    public static void main(String[] args) throws IOException {
        signs();
        texts();
        teaching();
        everyLineStandsHere();
        everyCallIsNamed();
        System.out.println(wrong == 0 ? "the README's examples are so" : wrong + " of the README's examples are not so");
        if (wrong != 0) {
            System.exit(1);
        }
    }

    private static void due(String what, int got, int want) {
        if (got != want) {
            wrong++;
            System.out.println(what + " is " + got + ", the README says " + want);
        }
    }

    private static void signs() {
        WordlessSigns x = new WordlessSigns();
        int house = x.look(true);                // 12, the first THING
        int sign = x.look(false);                // 0, the first DRAWING
        x.part(house, 2, 4, 0);                  // a bar in the middle
        x.part(sign, 2, 1, 0);                   // a bar above it
        x.means(sign, house, false);             // true: the sign MEANS the house
        x.land(0, 60, 1);                        // true: 60 readers, they know the first THING
        int far = x.far(sign, house);            // 2: one step in y
        int took = x.taken(sign, 0, 0);          // 12: the house, in LAND 0 at SITE 0
        int right = x.odds(sign, 0, 1);          // 60 of the readers are RIGHT
        due("house", house, 12);
        due("sign", sign, 0);
        due("far", far, 2);
        due("took", took, 12);
        due("right", right, 60);
        due("means", x.means(sign, house, false) ? 1 : 0, 1);
        due("land", x.land(0, 60, 1) ? 1 : 0, 1);
    }

    static void feed(WordlessSigns x, String text) {
        for (int from = 0; from < text.length(); from += 20) {
            int[] w = new int[5];
            for (int i = 0; i < 20; i++) {
                w[i / 4] = w[i / 4] << 8 | (from + i < text.length() ? text.charAt(from + i) : ' ');
            }
            x.feed(w[0], w[1], w[2], w[3], w[4]);
        }
    }

    private static void texts() {
        WordlessSigns x = new WordlessSigns();
        int sign = x.look(false);
        x.part(sign, 2, 1, 0);
        feed(x, "not bars > 0; must parts <= 3; harm 5 + 2 * turned;");
        int number = x.grammar();                // 0, the first GRAMMAR; the tape is empty again
        x.by(number);                            // true: it is THE GRAMMAR
        int not = x.says(sign, 0);               // 1: a sign with a bar says not
        int fits = x.says(sign, 1);              // 1: it has three PARTS at most
        int harm = x.harm(sign, 0, 0);           // 7: it MEANS none, so it is not RIGHT, and it is turned
        feed(x, "must parts <;");
        int none = x.grammar();                  // -1
        int fault = x.fault(0);                  // 1: something can't stand where it does ..
        int place = x.fault(1);                  // 12: .. the ;
        due("number", number, 0);
        due("by", x.by(number) ? 1 : 0, 1);
        due("not", not, 1);
        due("fits", fits, 1);
        due("harm", harm, 7);
        due("none", none, WordlessSigns.NONE);
        due("fault", fault, 1);
        due("place", place, 12);
        due("the tape", x.about(8), 0);
    }

    private static void teaching() {
        WordlessSigns x = new WordlessSigns();
        int sign = x.look(false);
        x.image();                               // 0, the clock: THE IMAGE is as all is now
        int needed = x.tellings(sign, 0, 4);     // 2: told twice, it is still learnt four weeks later
        x.teach(sign, 0);                        // 400
        x.teach(sign, 0);                        // 800
        x.weeks(4);                              // 4
        int right = x.right(sign, 0, 0);         // 1, whatever it is TAKEN for
        x.back();                                // 0: all is as it was, nothing is learnt
        int wrong = x.right(sign, 0, 0);         // 0
        due("needed", needed, 2);
        due("right", right, 1);
        due("wrong", wrong, 0);
        due("image", x.image(), 0);
        due("teach", x.teach(sign, 0), 400);
        due("teach", x.teach(sign, 0), 800);
        due("weeks", x.weeks(4), 4);
        due("back", x.back(), 0);
    }

    private static void everyLineStandsHere() throws IOException {
        List<String> here = Files.readAllLines(Path.of("src/test/java/ReadmeExamples.java")).stream().map(String::trim).toList();
        boolean code = false;
        int found = 0;
        for (String line : Files.readAllLines(Path.of("README.md"))) {
            if (line.startsWith("```")) {
                code = line.equals("```java");
            } else if (code && !line.isBlank()) {
                found++;
                if (!here.contains(line.trim())) {
                    wrong++;
                    System.out.println("not tried: " + line);
                }
            }
        }
        due("lines of examples, some", found > 0 ? 1 : 0, 1);
    }

    private static void everyCallIsNamed() throws IOException {
        String readme = Files.readString(Path.of("README.md"));
        for (Method method : WordlessSigns.class.getDeclaredMethods()) {
            if (Modifier.isPublic(method.getModifiers()) && !readme.contains("`" + method.getName() + "`")) {
                wrong++;
                System.out.println("not in the README: " + method.getName());
            }
        }
    }
}
