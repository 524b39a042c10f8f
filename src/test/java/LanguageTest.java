import java.io.IOException;
import java.nio.file.Files;
import java.nio.file.Path;
import java.util.regex.Matcher;
import java.util.regex.Pattern;

/** The rules of ../shared/LANGUAGE.md that can be seen in the text of the program. Runs in the project's folder. */
public final class LanguageTest {
    private static final Due DUE = new Due("LanguageTest");
    private static final Path PROGRAM = Path.of("src/main/java/EdgeCounterPlacer.java");
    private static final int LONGEST_METHOD = 60;
    private static final int MOST_CLASSES = 12;

    public static void main(String[] args) throws IOException {
        String text = Files.readString(PROGRAM);
        String code = text.replaceAll("(?s)/\\*.*?\\*/", "").replaceAll("//.*", "").replaceAll("\"[^\"\n]*\"", "\"\"");
        nothingIsImportedThrownOrCaught(code);
        nothingOutsideTheLibrary(code);
        objectsAreMadeInConstructorsAlone(code);
        sizes(code);
        DUE.holds("all signs of the program are ASCII", text.chars().allMatch(sign -> sign < 128));
        DUE.close();
    }

    private static void absent(String code, String... patterns) {
        for (String pattern : patterns) {
            Matcher matcher = Pattern.compile(pattern).matcher(code);
            DUE.holds("the program has no " + pattern, !matcher.find());
        }
    }

    private static void nothingIsImportedThrownOrCaught(String code) {
        absent(code, "\\bimport\\b", "\\bpackage\\b", "\\bthrow\\b", "\\btry\\b", "\\bcatch\\b", "\\bfinally\\b",
            "\\bthrows\\b", "\\bsynchronized\\b", "\\bassert\\b", "->", "::", "\\bstatic\\s*\\{", "\\bvar\\b");
    }

    private static void nothingOutsideTheLibrary(String code) {
        absent(code, "\\bFloat\\b", "\\bDouble\\b", "\\bInteger\\b", "\\bLong\\b", "\\bObject\\b", "\\bSystem\\b",
            "\\bjava\\.", "Exact\\b", "\\bRandom\\b", "\\bequals\\b", "\\bhashCode\\b", "\\btoString\\b");
        Matcher mathCalls = Pattern.compile("\\bMath\\.(\\w+)").matcher(code);
        while (mathCalls.find()) {
            DUE.holds("Math." + mathCalls.group(1) + " is in the library", mathCalls.group(1).matches("min|max|abs"));
        }
    }

    /** All calls of a run share one room, so a call makes no object: only fields and constructors do. */
    private static void objectsAreMadeInConstructorsAlone(String code) {
        for (String line : code.split("\n")) {
            if (line.matches(".*\\bnew\\b.*")) {
                boolean isField = line.matches("\\s*private final [\\w\\[\\]]+ \\w+ = new .*");
                boolean isInConstructor = line.matches("\\s+(\\w+|\\w+\\[i\\]) = new \\w+\\(\\);");
                DUE.holds("made in a constructor alone: " + line.trim(), isField || isInConstructor);
            }
        }
    }

    private static void sizes(String code) {
        int classes = Pattern.compile("\\bclass \\w+").matcher(code).results().toList().size();
        DUE.holds("at most " + MOST_CLASSES + " classes: " + classes, classes >= 1 && classes <= MOST_CLASSES);
        Matcher methods = Pattern.compile("(?m)^( +)[\\w\\[\\] ]+\\([^)]*\\) \\{\\n(?s:.*?)^\\1\\}").matcher(code);
        int seen = 0;
        while (methods.find()) {
            seen++;
            int lines = methods.group().split("\n").length;
            DUE.holds("short: " + methods.group().split("\n")[0].trim(), lines <= LONGEST_METHOD);
        }
        DUE.holds("the methods were found: " + seen, seen > 29);
    }
}
