import java.lang.reflect.Method;
import java.nio.file.Files;
import java.nio.file.Path;
import java.util.HashMap;
import java.util.List;
import java.util.Map;
import java.util.regex.Matcher;
import java.util.regex.Pattern;

/** README.md: the calls of its example answer as it says, and it tells of every call of the document's face. */
public final class ReadmeTest {
    private static final Pattern ASKED = Pattern.compile("x\\.(\\w+)\\(([^)]*)\\);\\s*// (-?\\w+): .*");
    private static final Pattern TYPED = Pattern.compile("for .*\"([^\"]+)\"\\.toCharArray\\(\\)\\) x\\.type\\(c\\);");
    private static final Pattern FACE = Pattern.compile("    public int (\\w+)\\(([^)]*)\\);");

    private static final Map<String, Method> CALLS = new HashMap<>();

    public static void main(String[] args) throws Exception {
        for (Method m : NoonSaws.class.getMethods()) CALLS.put(m.getName(), m);
        String readme = Files.readString(Path.of("README.md"));
        example(readme.lines().toList());
        calls(readme);
        Check.end();
    }

    private static void example(List<String> lines) throws Exception {
        int from = lines.indexOf("```java"), asked = 0;
        NoonSaws x = null;
        for (int i = from + 1; from >= 0 && !lines.get(i).equals("```"); i++) {
            Matcher call = ASKED.matcher(lines.get(i)), text = TYPED.matcher(lines.get(i));
            if (lines.get(i).equals("NoonSaws x = new NoonSaws();")) {
                x = new NoonSaws();
            } else if (text.matches()) {
                for (char c : text.group(1).toCharArray()) x.type(c);
            } else if (call.matches()) {
                asked++;
                Check.due(lines.get(i), answer(x, call.group(1), call.group(2)), due(call.group(3)));
            } else {
                Check.due("a line of the example that can't be held: " + lines.get(i), 0, 1);
            }
        }
        Check.due("the example asks nothing", asked > 0 ? 1 : 0, 1);
    }

    private static int answer(NoonSaws x, String call, String arguments) throws Exception {
        String[] words = arguments.isEmpty() ? new String[0] : arguments.split(", ");
        Object[] numbers = new Object[words.length];
        for (int i = 0; i < words.length; i++) numbers[i] = Integer.parseInt(words[i]);
        return (Integer) CALLS.get(call).invoke(x, numbers);
    }

    private static int due(String word) throws Exception {
        return word.matches("-?\\d+") ? Integer.parseInt(word) : NoonSaws.class.getField(word).getInt(null);
    }

    private static void calls(String readme) throws Exception {
        int found = 0;
        for (String line : Files.readAllLines(Path.of("../shared/DOC.md"))) {
            Matcher m = FACE.matcher(line);
            if (!m.matches()) continue;
            found++;
            String told = m.group(1) + "(" + m.group(2).replaceAll("(int|long) ", "") + ")";
            Check.due("README tells of " + told, readme.contains("`" + told + "`") ? 1 : 0, 1);
        }
        Check.due("calls of the document's face", found, 33);
    }
}
