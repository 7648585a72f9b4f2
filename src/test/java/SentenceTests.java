import java.io.IOException;
import java.lang.reflect.InvocationTargetException;
import java.lang.reflect.Method;
import java.nio.file.Files;
import java.nio.file.Path;
import java.util.ArrayList;
import java.util.Arrays;
import java.util.Comparator;
import java.util.LinkedHashMap;
import java.util.List;
import java.util.Map;

/**
 * Runs every test that bears words of the document, and holds that the words stand there and that no sentence of the
 * Terms and of the promises is without a test of its own.
 */
public final class SentenceTests {
    private static final List<Class<?>> TESTS = List.of(TermsOfLooks.class, TermsOfGrammars.class,
            TermsOfChoices.class, TermsOfAnswers.class, PromisesOfLooks.class, PromisesOfReadings.class,
            PromisesOfChoices.class, PromisesOfAnswers.class, StaleAndFull.class);

    public static void main(String[] args) throws IOException, IllegalAccessException {
        Map<Integer, List<String>> sentences = sentencesOfTheDocument();
        List<Method> tests = tests();
        for (Method test : tests) {
            run(test);
        }
        int strange = strangeWords(tests, sentences);
        int bare = bareSentences(tests, sentences);
        System.out.println(tests.size() + " tests of sentences: " + Sentences.wrong + " wrong answers, " + strange
                + " without their words in the document, " + bare + " sentences without a test");
        if (Sentences.wrong + strange + bare != 0 || tests.isEmpty()) {
            System.exit(1);
        }
    }

    private static List<Method> tests() {
        List<Method> tests = new ArrayList<>();
        for (Class<?> c : TESTS) {
            Method[] methods = c.getDeclaredMethods();
            // The order of reflection is free; what is printed should be the same each time.
            Arrays.sort(methods, Comparator.comparing(Method::getName));
            for (Method m : methods) {
                if (m.isAnnotationPresent(Says.class)) {
                    tests.add(m);
                }
            }
        }
        return tests;
    }

    private static void run(Method test) throws IllegalAccessException {
        Sentences.test = test.getDeclaringClass().getName() + "." + test.getName();
        try {
            test.invoke(null);
        } catch (InvocationTargetException e) {
            Sentences.wrong++;
            System.out.println(Sentences.test + " threw " + e.getCause());
        }
    }

    /** The sentences of the Terms (0) and of each promise, blanks made one. */
    private static Map<Integer, List<String>> sentencesOfTheDocument() throws IOException {
        String doc = Files.readString(Path.of("../shared/DOC.md"));
        String told = doc.substring(doc.indexOf("## Terms"), doc.indexOf("## Not promised"));
        Map<Integer, List<String>> all = new LinkedHashMap<>();
        for (String section : told.replace("```text", "").replace("```", "").split("(?m)^## ")) {
            if (section.isBlank()) {
                continue;
            }
            String head = section.substring(0, section.indexOf('\n'));
            int promise = head.startsWith("Promise ") ? Integer.parseInt(head.substring(8, head.indexOf(':'))) : 0;
            String body = section.substring(section.indexOf('\n')).replaceAll("\\s+", " ").trim();
            List<String> here = new ArrayList<>();
            // A point ends a sentence, but not the two points of a range.
            for (String sentence : body.split("(?<=[^ .])[.](?= |$)")) {
                if (!sentence.isBlank() && !sentence.contains("====")) {
                    here.add(sentence.trim());
                }
            }
            all.put(promise, here);
        }
        return all;
    }

    private static int strangeWords(List<Method> tests, Map<Integer, List<String>> sentences) {
        int strange = 0;
        for (Method test : tests) {
            Says says = test.getAnnotation(Says.class);
            if (sentences.getOrDefault(says.promise(), List.of()).stream().noneMatch(s -> s.contains(says.value()))) {
                strange++;
                System.out.println(test.getName() + ": the document has no '" + says.value() + "' there");
            }
        }
        return strange;
    }

    private static int bareSentences(List<Method> tests, Map<Integer, List<String>> sentences) {
        int bare = 0;
        for (Map.Entry<Integer, List<String>> entry : sentences.entrySet()) {
            for (String sentence : entry.getValue()) {
                boolean held = false;
                for (Method test : tests) {
                    Says says = test.getAnnotation(Says.class);
                    held |= says.promise() == entry.getKey() && sentence.contains(says.value());
                }
                if (!held) {
                    bare++;
                    System.out.println("no test of promise " + entry.getKey() + ": " + sentence);
                }
            }
        }
        return bare;
    }
}
