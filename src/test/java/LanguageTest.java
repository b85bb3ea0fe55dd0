import java.lang.reflect.Constructor;
import java.lang.reflect.Field;
import java.lang.reflect.Method;
import java.lang.reflect.Modifier;
import java.nio.file.Files;
import java.nio.file.Path;
import java.util.ArrayList;
import java.util.HashSet;
import java.util.List;
import java.util.Set;
import java.util.regex.Matcher;
import java.util.regex.Pattern;

/** The rules of ../shared/LANGUAGE.md that can be read off the source and the compiled classes. */
public final class LanguageTest {
    private static final String EXCEPTIONS = "(IllegalStateException|IllegalArgumentException|IndexOutOfBoundsException"
            + "|ArithmeticException|UnsupportedOperationException|NoSuchElementException|RuntimeException)";
    private static final Pattern THROW = Pattern.compile("\\bthrow\\b[^;]*;");
    private static final Pattern THROW_THAT_CAN_BE = Pattern.compile("throw new " + EXCEPTIONS + "\\((\"\")?\\);");
    private static final Pattern METHOD = Pattern.compile("^( +)\\S[^=;]*\\) (throws [\\w, ]+ )?\\{$");
    private static final Pattern LIBRARY = Pattern.compile("\\b(Math|Arrays|System|Integer|Long)\\.(\\w+)");
    private static final Set<String> LIBRARY_THAT_CAN_BE = Set.of("Math.max", "Math.min", "Arrays.fill");

    // The class needs none of these; rules 2, 4, 6, 10 and 13 bar or bind each of them.
    private static final String[] BARRED = {
        "->", "::", "\\btry\\b", "\\bcatch\\b", "\\bfinally\\b", "\\bsynchronized\\b", "\\bassert\\b", "\\bpackage\\b",
        "\\bstatic \\{", "\\bdouble\\b", "\\bfloat\\b", "\\bString\\b", "\\bObject\\b", "Exact\\b", "\\bThread\\b",
        "\\bRandom\\b", "\\bvolatile\\b", "\\bnative\\b", "\\bequals\\b", "\\bhashCode\\b", "\\btoString\\b",
    };

    private static int wrong = 0;

    public static void main(String[] args) throws Exception {
        String source = Files.readString(Path.of("src/main/java/RiskHouse.java"));
        String code = withoutCommentsAndTexts(source);
        rule4Imports(code);
        rule4Library(code);
        rule6Throws(code);
        barredWords(code);
        rule11Lengths(source);
        List<Class<?>> classes = new ArrayList<>();
        classes.add(RiskHouse.class);
        classes.addAll(List.of(RiskHouse.class.getDeclaredClasses()));
        check("rule 11: some twelve classes at most", classes.size() <= 12);
        for (Class<?> c : classes) {
            rule5StaticFields(c);
            rule11Class(c);
        }
        rule1PrivateNames();
        rule2Nested();
        System.out.println(wrong == 0 ? "the language is as due" : wrong + " rules are broken");
        if (wrong != 0) {
            System.exit(1);
        }
    }

    private static void check(String what, boolean holds) {
        if (!holds) {
            wrong++;
            System.out.println("does not hold: " + what);
        }
    }

    private static String withoutCommentsAndTexts(String source) {
        return source.replaceAll("(?s)/\\*.*?\\*/", "").replaceAll("//[^\n]*", "").replaceAll("\"[^\"\n]*\"", "\"\"");
    }

    private static void rule1PrivateNames() {
        Set<String> shown = new HashSet<>();
        for (Method m : RiskHouse.class.getDeclaredMethods()) {
            if (Modifier.isPublic(m.getModifiers())) {
                shown.add(m.getName());
            }
        }
        for (Method m : RiskHouse.class.getDeclaredMethods()) {
            boolean isPrivate = Modifier.isPrivate(m.getModifiers());
            check("rule 1: a private method is named " + m.getName(), !isPrivate || !shown.contains(m.getName()));
        }
    }

    private static void rule2Nested() {
        for (Class<?> c : RiskHouse.class.getDeclaredClasses()) {
            int modifiers = c.getModifiers();
            boolean hidden = !Modifier.isPublic(modifiers) && !Modifier.isProtected(modifiers);
            check("rules 1 and 2: " + c + " is static and not to be seen", hidden && Modifier.isStatic(modifiers));
            check("rule 2: " + c + " has no classes inside", c.getDeclaredClasses().length == 0);
        }
    }

    private static void rule4Imports(String code) {
        for (String line : code.split("\n")) {
            check("rule 4: " + line, !line.startsWith("import") || line.equals("import java.util.Arrays;"));
        }
    }

    private static void rule4Library(String code) {
        Matcher m = LIBRARY.matcher(code);
        while (m.find()) {
            check("rule 4: " + m.group(), LIBRARY_THAT_CAN_BE.contains(m.group()));
        }
        check("rule 4: no whole name of the library", !code.replace("import java.util.Arrays;", "").contains("java."));
    }

    private static void rule5StaticFields(Class<?> c) {
        for (Field f : c.getDeclaredFields()) {
            boolean isStatic = Modifier.isStatic(f.getModifiers());
            boolean constant = Modifier.isFinal(f.getModifiers()) && f.getType() == int.class;
            check("rule 5: " + f, !isStatic || constant);
        }
    }

    private static void rule6Throws(String code) {
        Matcher m = THROW.matcher(code);
        while (m.find()) {
            check("rule 6: " + m.group(), THROW_THAT_CAN_BE.matcher(m.group()).matches());
        }
    }

    private static void barredWords(String code) {
        for (String word : BARRED) {
            check("none of " + word, !Pattern.compile(word).matcher(code).find());
        }
    }

    private static void rule11Class(Class<?> c) {
        int own = 0;
        for (Field f : c.getDeclaredFields()) {
            own += Modifier.isStatic(f.getModifiers()) ? 0 : 1;
        }
        check("rule 11: some twenty fields at most in " + c, own <= 20);
        for (Method m : c.getDeclaredMethods()) {
            check("rule 11: seven parameters at most of " + m, m.getParameterCount() <= 7);
        }
        for (Constructor<?> m : c.getDeclaredConstructors()) {
            check("rule 11: seven parameters at most of " + m, m.getParameterCount() <= 7);
        }
    }

    private static void rule11Lengths(String source) {
        String[] lines = source.split("\n");
        int methods = 0;
        for (int i = 0; i < lines.length; i++) {
            Matcher m = METHOD.matcher(lines[i]);
            if (m.matches() && !lines[i].trim().matches("(if|for|while|switch|\\}).*")) {
                methods++;
                int end = i;
                while (end < lines.length && !lines[end].equals(m.group(1) + "}")) {
                    end++;
                }
                check("rule 11: some sixty lines at most from line " + (i + 1), end - i < 60);
            }
        }
        check("rule 11: the methods of the face are looked at at least", methods >= 13);
    }
}
