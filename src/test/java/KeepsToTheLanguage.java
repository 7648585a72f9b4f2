import java.io.IOException;
import java.lang.reflect.Constructor;
import java.lang.reflect.Field;
import java.lang.reflect.Method;
import java.lang.reflect.Modifier;
import java.nio.file.Files;
import java.nio.file.Path;
import java.util.ArrayList;
import java.util.List;
import java.util.Set;
import java.util.TreeSet;
import java.util.regex.Matcher;
import java.util.regex.Pattern;

/** What can be seen of LANGUAGE.md from the class and its text, and that the face is the document's. */
public final class KeepsToTheLanguage {
    private static int wrong;

    public static void main(String[] args) throws IOException {
        String text = Files.readString(Path.of("src/main/java/WordlessSigns.java"));
        String code = text.replaceAll("(?s)/\\*.*?\\*/", " ").replaceAll("//[^\n]*", " ").replaceAll("\"[^\"]*\"", "\"\"");
        face();
        classes();
        words(code);
        methods(code);
        news(code);
        System.out.println(wrong == 0 ? "the class keeps to the language" : wrong + " rules are broken");
        if (wrong != 0) {
            System.exit(1);
        }
    }

    private static void want(boolean so, String what) {
        if (!so) {
            wrong++;
            System.out.println(what);
        }
    }

    private static void face() throws IOException {
        String doc = Files.readString(Path.of("../shared/DOC.md"));
        Matcher m = Pattern.compile("public (int|boolean) (\\w+)\\(([^)]*)\\);").matcher(doc);
        Set<String> due = new TreeSet<>();
        while (m.find()) {
            List<String> types = new ArrayList<>();
            for (String p : m.group(3).isBlank() ? new String[0] : m.group(3).split(",")) {
                types.add(p.trim().split(" ")[0]);
            }
            due.add(m.group(1) + " " + m.group(2) + types);
        }
        Set<String> there = new TreeSet<>();
        for (Method method : WordlessSigns.class.getDeclaredMethods()) {
            if (Modifier.isPublic(method.getModifiers())) {
                List<String> types = new ArrayList<>();
                for (Class<?> c : method.getParameterTypes()) {
                    types.add(c.getName());
                }
                there.add(method.getReturnType() + " " + method.getName() + types);
            } else {
                want(Modifier.isPrivate(method.getModifiers()), "rule 1: " + method + " is neither public nor private");
            }
        }
        want(due.size() == 46, "46 methods stand in the document, " + due.size() + " were found");
        want(due.equals(there), "rule 1: the face is " + there + ", due is " + due);
        for (Field field : WordlessSigns.class.getDeclaredFields()) {
            boolean none = field.getName().equals("NONE");
            want(none ? Modifier.isPublic(field.getModifiers()) : Modifier.isPrivate(field.getModifiers()),
                    "rule 1: " + field);
        }
        Constructor<?>[] makers = WordlessSigns.class.getDeclaredConstructors();
        want(makers.length == 1 && makers[0].getParameterCount() == 0 && Modifier.isPublic(makers[0].getModifiers()),
                "rule 1: the constructor");
        want(Modifier.isFinal(WordlessSigns.class.getModifiers()), "rule 1: the class is final");
    }

    private static void classes() {
        Set<String> publics = new TreeSet<>();
        List<Class<?>> all = new ArrayList<>(List.of(WordlessSigns.class.getDeclaredClasses()));
        want(all.size() + 1 <= 12, "rule 11: " + (all.size() + 1) + " classes");
        for (Method method : WordlessSigns.class.getDeclaredMethods()) {
            if (Modifier.isPublic(method.getModifiers())) {
                publics.add(method.getName());
            }
        }
        all.add(WordlessSigns.class);
        for (Class<?> c : all) {
            int fields = 0;
            for (Field field : c.getDeclaredFields()) {
                boolean constant = Modifier.isStatic(field.getModifiers());
                fields += constant ? 0 : 1;
                want(!constant || Modifier.isFinal(field.getModifiers()), "rule 5: " + field);
            }
            want(fields <= 20, "rule 11: " + c + " has " + fields + " fields");
            if (c == WordlessSigns.class) {
                continue;
            }
            want(Modifier.isStatic(c.getModifiers()), "rule 2: " + c + " is not static");
            for (Method method : c.getDeclaredMethods()) {
                want(!publics.contains(method.getName()), "rule 1: " + method + " has the name of a public one");
            }
        }
        for (Method method : WordlessSigns.class.getDeclaredMethods()) {
            want(Modifier.isPublic(method.getModifiers()) || !publics.contains(method.getName()), "rule 1: " + method);
        }
    }

    private static void words(String code) {
        String[] banned = {"throw", "throws", "try", "catch", "finally", "synchronized", "assert", "default ->", "->", "::",
            "package", "native", "volatile", "Random", "System\\.(?!arraycopy)", "Thread", "Object", "hashCode", "toString",
            "while", "double", "float", "Exact", "MAX_VALUE", "MIN_VALUE"};
        for (String word : banned) {
            String form = Character.isLetter(word.charAt(0)) ? "\\b" + word + (word.endsWith(")") ? "" : "\\b") : word;
            want(!Pattern.compile(form).matcher(code).find(), "the text has " + word);
        }
        Matcher imports = Pattern.compile("import ([^;]+);").matcher(code);
        while (imports.find()) {
            want(imports.group(1).equals("java.util.Arrays"), "rule 4: import of " + imports.group(1));
        }
    }

    private static void methods(String code) {
        Pattern head = Pattern.compile("^( {4}| {8})(public |private |static |final )*[\\w\\[\\]]+ ?\\w*\\(([^)]*)\\) \\{$");
        String[] lines = code.split("\n");
        int found = 0;
        for (int i = 0; i < lines.length; i++) {
            Matcher m = head.matcher(lines[i]);
            if (!m.find()) {
                continue;
            }
            found++;
            int end = i;
            while (!lines[end].equals(m.group(1) + "}")) {
                end++;
            }
            want(end - i + 1 <= 60, "rule 11: " + (end - i + 1) + " lines in " + lines[i].trim());
            int parameters = m.group(3).isBlank() ? 0 : m.group(3).split(",").length;
            want(parameters <= 7, "rule 11: " + parameters + " parameters in " + lines[i].trim());
        }
        want(found > 120, "the methods were not found: " + found);
    }

    /** Rows are made with the object and used again: outside of constructors and fields nothing is new. */
    private static void news(String code) {
        Matcher m = Pattern.compile("[^\n]*\\bnew\\b[^\n]*").matcher(code);
        while (m.find()) {
            String line = m.group().trim();
            boolean field = line.matches("(private )?final [\\w\\[\\]]+ \\w+ = new .*;");
            boolean maker = line.matches("(\\w+(\\[i\\])?|int\\[\\] stack) = new .*;");
            want(field || maker, "made anew in: " + line);
        }
    }
}
