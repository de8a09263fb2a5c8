import java.io.IOException;
import java.nio.file.Files;
import java.nio.file.Path;
import java.util.Set;
import java.util.TreeSet;
import java.util.regex.Matcher;
import java.util.regex.Pattern;

/** Rules of LANGUAGE.md that the text of the class can be held against; FaceTest holds those of its face. */
public final class LanguageTest {
    private static final Check CHECK = new Check();
    private static final Path SOURCE = Path.of("src/main/java/WasteBrook.java");

    private LanguageTest() {
    }

    public static void main(String[] args) throws IOException {
        String source = Files.readString(SOURCE);
        String code = withoutTextsAndComments(source);
        rule3SignsAndTypes(source, code);
        rule4TheLibrary(code);
        rule5StaticFields(code);
        rule6Exceptions(code);
        rule10NoWordsThatAreNotInIt(code);
        rule11ShortMethodsFewClasses(code);
        CHECK.close("LanguageTest");
    }

    /** What is left has blanks in place of what was in texts, signs and comments. */
    private static String withoutTextsAndComments(String source) {
        Matcher m = Pattern.compile("\"(?:\\\\.|[^\"\\\\])*\"|'(?:\\\\.|[^'\\\\])'|/\\*.*?\\*/|//[^\n]*", Pattern.DOTALL).matcher(source);
        StringBuilder b = new StringBuilder();
        while (m.find()) {
            String what = m.group();
            String put = what.startsWith("\"") ? "\"\"" : what.startsWith("'") ? "'a'" : what.replaceAll("[^\n]", "");
            m.appendReplacement(b, Matcher.quoteReplacement(put));
        }
        return m.appendTail(b).toString();
    }

    private static Set<String> all(String pattern, String code) {
        Set<String> found = new TreeSet<>();
        Matcher m = Pattern.compile(pattern).matcher(code);
        while (m.find()) {
            found.add(m.group(1));
        }
        return found;
    }

    private static void none(String what, String pattern, String code) {
        CHECK.same(what, all("(" + pattern + ")", code).toString(), "[]");
    }

    private static void only(String what, Set<String> found, Set<String> allowed) {
        Set<String> rest = new TreeSet<>(found);
        rest.removeAll(allowed);
        CHECK.same(what, rest.toString(), "[]");
    }

    /** Rule 3, and of rule 4 that the signs of constants are 1 to 127. */
    private static void rule3SignsAndTypes(String source, String code) {
        for (int i = 0; i < source.length(); i++) {
            if (source.charAt(i) < 10 || source.charAt(i) > 126) {
                CHECK.eq("the sign at " + i, source.charAt(i), ' ');
            }
        }
        CHECK.no("no package line", source.startsWith("package") || source.contains("\npackage"));
        none("no doubles, no floats", "\\b(?:double|float)\\b", code);
        none("no rows of rows of rows", "\\[\\]\\s*\\[\\]\\s*\\[\\]", code);
    }

    /** Rule 4: the library that the class uses. */
    private static void rule4TheLibrary(String code) {
        only("imports", all("import ([\\w.]+);", code), Set.of("java.util.Arrays", "java.util.NoSuchElementException"));
        only("of Math, Integer, Long, System, Arrays", all("\\b((?:Math|Integer|Long|System|Arrays)\\.\\w+)", code),
            Set.of("Math.min", "Math.max", "Math.abs", "Integer.bitCount", "System.arraycopy", "Arrays.fill"));
        none("no full names", "\\bjava\\.(?!util\\.(?:Arrays|NoSuchElementException);)[\\w.]+", code);
    }

    /** Rule 5: static fields are final, and no block of them. */
    private static void rule5StaticFields(String code) {
        none("static fields that are not final", "(?m)^\\s*(?:private |public )?static (?!final)[\\w\\[\\]]+ \\w+(?: =|;)", code);
        none("static blocks", "static\\s*\\{", code);
    }

    /** Rule 6: what is thrown, and nothing is caught. */
    private static void rule6Exceptions(String code) {
        only("thrown", all("throw new (\\w+)\\(", code), Set.of("NoSuchElementException"));
        none("throw without new", "\\bthrow (?!new)", code);
        none("nothing is caught", "\\b(?:try|catch|finally|assert|synchronized)\\b", code);
    }

    /** Rules 2, 10 and 13: lambdas, references to methods, names of the library that are not in it. */
    private static void rule10NoWordsThatAreNotInIt(String code) {
        none("no lambda, no method reference", "->|::", code);
        none("no text joined by +", "\"\"\\s*\\+|\\+\\s*\"\"", code);
        none("no", "\\b(?:var|record|yield|native|volatile|transient|instanceof|Random|Thread|Object|Class|goto|strictfp)\\b", code);
        none("no equals, hashCode or toString of its own", "\\b(?:equals|hashCode|toString)\\(", code);
        none("no annotations", "@\\w+", code);
    }

    /** Rule 11: some sixty lines, some twelve classes; and lines of a width that can be read. */
    private static void rule11ShortMethodsFewClasses(String code) {
        Matcher m = Pattern.compile("(?m)^(    |        )(?!private static final class|static final)[\\w\\[\\]][^=;\\n]*\\)(?: throws \\w+)? \\{$").matcher(code);
        int methods = 0;
        while (m.find()) {
            int end = code.indexOf("\n" + m.group(1) + "}\n", m.end());
            CHECK.yes("it ends: " + m.group(), end > 0);
            long lines = code.substring(m.start(), Math.max(m.start(), end)).lines().count();
            CHECK.yes(lines + " lines: " + m.group().trim(), lines <= 60);
            methods++;
        }
        CHECK.yes("methods were found: " + methods, methods > 120);
        CHECK.yes("some twelve classes", Pattern.compile("\\bclass \\w+").matcher(code).results().count() <= 12);
    }
}
