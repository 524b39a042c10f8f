import java.io.IOException;
import java.nio.file.Files;
import java.nio.file.Path;
import java.util.BitSet;
import java.util.LinkedHashMap;
import java.util.Map;
import java.util.regex.Matcher;
import java.util.regex.Pattern;

/**
 * ../shared/DOC.md cut into its parts ("Control flow graph", "Promise 7" and so on), where a test can
 * look up the sentence that it stands for, and where the sentences without a test can be found.
 */
final class Document {
    private static final Path PLACE = Path.of("../shared/DOC.md");
    private static final Pattern HEADING = Pattern.compile("#+ (Promise \\d+)?(.*)|(Examples|The constants):.*");

    private final Map<String, StringBuilder> texts = new LinkedHashMap<>();
    private final Map<String, BitSet> quoted = new LinkedHashMap<>();

    static boolean isHere() {
        return Files.isRegularFile(PLACE);
    }

    Document() throws IOException {
        String part = "";
        for (String line : Files.readAllLines(PLACE)) {
            Matcher heading = HEADING.matcher(line);
            if (heading.matches()) {
                part = name(heading);
            } else {
                texts.computeIfAbsent(part, key -> new StringBuilder()).append(line.trim()).append(' ');
            }
        }
        texts.replaceAll((name, text) -> new StringBuilder(text.toString().replaceAll("\\s+", " ")));
    }

    private static String name(Matcher heading) {
        if (heading.group(3) != null) {
            return heading.group(3);
        }
        return heading.group(1) != null ? heading.group(1) : heading.group(2);
    }

    /** Marks every place where a part says these words; answers whether there is one. */
    boolean quote(String part, String words) {
        StringBuilder text = texts.getOrDefault(part, new StringBuilder());
        BitSet marks = quoted.computeIfAbsent(part, key -> new BitSet());
        boolean found = false;
        for (int place = text.indexOf(words); place >= 0; place = text.indexOf(words, place + 1)) {
            marks.set(place, place + words.length());
            found = true;
        }
        return found;
    }

    /** What a part says that nobody has quoted, but for signatures, arguments' names and signs. */
    String unquoted(String part) {
        StringBuilder text = texts.getOrDefault(part, new StringBuilder());
        BitSet marks = quoted.getOrDefault(part, new BitSet());
        StringBuilder rest = new StringBuilder();
        for (int place = 0; place < text.length(); place++) {
            rest.append(marks.get(place) ? ' ' : text.charAt(place));
        }
        String words = rest.toString().replaceAll("`[^`]*`", " ").replaceAll("\\s+", " ").trim();
        return words.matches("[^A-Za-z0-9]*") ? "" : words;
    }

    Iterable<String> parts() {
        return texts.keySet();
    }
}
