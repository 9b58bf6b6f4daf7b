import java.nio.file.Files;
import java.nio.file.Path;
import java.util.List;
import java.util.regex.Matcher;
import java.util.regex.Pattern;

/** What of LANGUAGE.md can be seen in the source by its words alone. */
public final class LanguageTest {
    private static final String[] BARRED = {"import", "package", "throw", "throws", "try", "catch", "finally",
        "synchronized", "assert", "protected", "volatile", "transient", "native", "instanceof", "->", "::", "Exact",
        "System.out", "nanoTime", "Random", "Thread", "hashCode", "NaN", "double", "float"};

    public static void main(String[] args) throws Exception {
        List<String> lines = Files.readAllLines(Path.of("src/main/java/NoonSaws.java"));
        int classes = 0, head = -1;
        String within = "";
        for (int i = 0; i < lines.size(); i++) {
            String line = lines.get(i);
            Check.due("signs beyond 127 in line " + (i + 1), line.chars().filter(c -> c > 127).count(), 0);
            String code = line.replaceAll("//.*|/\\*.*", "");
            for (String word : BARRED) {
                boolean sign = !Character.isLetter(word.charAt(0));
                String pattern = sign ? Pattern.quote(word) : "\\b" + Pattern.quote(word) + "\\b";
                Check.due(word + " in line " + (i + 1), Pattern.compile(pattern).matcher(code).find() ? 1 : 0, 0);
            }
            if (code.matches(".*\\bclass\\b.*")) classes++;
            Matcher m = Pattern.compile("^( {4}| {8})[a-z]\\S*.*\\b(\\w+)\\((.*)\\) \\{$").matcher(code);
            if (m.find()) {
                head = i;
                within = m.group(1);
                Check.due("parameters in line " + (i + 1), m.group(3).split(",").length > 7 ? 1 : 0, 0);
            }
            if (head >= 0 && line.equals(within + "}")) {
                Check.due("more than 60 lines from line " + (head + 1), i - head > 60 ? 1 : 0, 0);
                head = -1;
            }
        }
        Check.due("more than 12 classes", classes > 12 ? 1 : 0, 0);
        Check.end();
    }
}
