import java.lang.reflect.InvocationTargetException;
import java.lang.reflect.Method;
import java.util.ArrayList;
import java.util.HashMap;
import java.util.List;
import java.util.Map;

/**
 * A sentence of the document, and a run of calls on a new object that would answer otherwise if it were broken.
 *
 * A line is a call with its answer, "set 0 4 = BAD"; without an answer it must only not be refused; "3 * hours 40" is done
 * three times; "tell TEXT = 2" types the text and reads it. Whatever a line asks, or is refused, must leave all as it was: a
 * second run without that line is made, and all that other calls show of both must be alike.
 */
final class Script {
    private static final int LIMIT = 512;
    private static final int ROOM = 5;
    private static final String ASKING =
        " of at count left ahead then falls noon best most sharp without thickest hops dust ";
    private static final Map<String, Integer> NAMES = Map.of("BAD", -1, "NOT", -2, "FULL", -3, "NONE", -4, "NULL", -11,
        "CAST", -12, "INDEX", -13, "SIZE", -14, "LOW", Integer.MIN_VALUE, "HIGH", Integer.MAX_VALUE);
    private static final Map<String, Method> CALLS = new HashMap<>();

    private static int sentences = 0;
    private static int leavings = 0;

    static {
        for (Method m : NoonSaws.class.getDeclaredMethods()) CALLS.put(m.getName(), m);
    }

    private final String sentence;
    /** The lines that may have changed something. */
    private final List<Line> done = new ArrayList<>();
    /** What each probe shows behind these lines. */
    private final Map<Integer, List<String>> shown = new HashMap<>();
    private final Player player = new Player();

    private Script(String sentence) {
        this.sentence = sentence;
    }

    static void says(String sentence, String... lines) {
        Script script = new Script(sentence);
        sentences++;
        for (String line : lines) script.play(new Line(line));
    }

    static void end() {
        System.out.println(sentences + " sentences, " + leavings + " calls that leave all as it was");
        Check.end();
    }

    private void play(Line line) {
        int answer = 0;
        for (int i = 0; i < line.times; i++) {
            answer = player.play(line);
            if (line.hasDue) Check.due("'" + sentence + "': " + line.text, answer, line.due);
            else if (answer < 0 && !changes(line, answer)) Check.due("'" + sentence + "': " + line.text, answer, 0);
        }
        if (changes(line, answer)) {
            done.add(line);
            shown.clear();
        } else {
            leavesAll(line);
        }
    }

    private static boolean changes(Line line, int answer) {
        if (ASKING.contains(" " + line.call + " ")) return false;
        // A text with a fault, and only a text, is told by lines that change nothing all together.
        return answer >= 0 || (line.call.equals("set") && answer == NAMES.get("NONE")) || line.call.equals("read");
    }

    private void leavesAll(Line line) {
        leavings++;
        for (int probe = 0; probe < Player.PROBES; probe++) {
            List<String> with = showBehind(line, probe);
            List<String> without = shown.computeIfAbsent(probe, p -> showBehind(null, p));
            for (int i = 0; i < Math.max(with.size(), without.size()); i++) {
                String a = i < with.size() ? with.get(i) : "nothing", b = i < without.size() ? without.get(i) : "nothing";
                if (!a.equals(b)) {
                    Check.due("'" + sentence + "': " + line.text + " changed what is shown: " + a + " instead of " + b, 0, 1);
                    break;
                }
            }
        }
    }

    private List<String> showBehind(Line line, int probe) {
        Player p = new Player();
        for (Line l : done) for (int i = 0; i < l.times; i++) p.play(l);
        if (line != null) p.play(line);
        p.log = new ArrayList<>();
        p.probe(probe);
        return p.log;
    }

    /** One line, taken apart. */
    private static final class Line {
        final String text;
        final String call;
        final long[] arguments;
        final int times;
        final boolean hasDue;
        final int due;

        Line(String line) {
            text = line;
            int star = line.indexOf(" * ");
            boolean often = star > 0 && line.substring(0, star).matches("\\d+");
            times = often ? Integer.parseInt(line.substring(0, star)) : 1;
            String rest = often ? line.substring(star + 3) : line;
            int is = rest.lastIndexOf(" = ");
            hasDue = is >= 0;
            due = hasDue ? (int) number(rest.substring(is + 3)) : 0;
            String asked = hasDue ? rest.substring(0, is) : rest;
            if (asked.startsWith("tell")) {
                call = "tell";
                String told = asked.length() > 5 ? asked.substring(5) : "";
                arguments = told.chars().asLongStream().toArray();
            } else {
                String[] words = asked.split(" ");
                call = words[0];
                arguments = new long[words.length - 1];
                for (int i = 0; i < arguments.length; i++) arguments[i] = number(words[i + 1]);
            }
        }

        private static long number(String word) {
            Integer named = NAMES.get(word);
            return named != null ? named : Long.parseLong(word);
        }
    }

    /** One object, and the calls that it is given. */
    private static final class Player {
        static final int PROBES = 9;

        private final NoonSaws x = new NoonSaws();
        private int calls = 0;
        private List<String> log = null;

        int play(Line line) {
            if (!line.call.equals("tell")) return ask(line.call, line.arguments);
            for (long letter : line.arguments) ask("type", letter);
            return ask("read");
        }

        int ask(String call, long... a) {
            if (++calls > LIMIT) throw new IllegalStateException("more than " + LIMIT + " calls");
            Method m = CALLS.get(call);
            Class<?>[] types = m.getParameterTypes();
            if (types.length != a.length) throw new IllegalStateException(call + " takes " + types.length);
            Object[] boxed = new Object[a.length];
            for (int i = 0; i < a.length; i++) boxed[i] = types[i] == long.class ? (Object) a[i] : (Object) (int) a[i];
            int answer = answer(m, boxed);
            if (log != null) log.add(call + java.util.Arrays.toString(a) + " " + answer);
            return answer;
        }

        private int answer(Method m, Object[] a) {
            try {
                return (Integer) m.invoke(x, a);
            } catch (InvocationTargetException e) {
                throw new IllegalStateException(m.getName() + java.util.Arrays.toString(a) + " threw", e.getCause());
            } catch (IllegalAccessException e) {
                throw new IllegalStateException(e);
            }
        }

        /** Shows one side of all that can be shown; the object is used up by it. */
        void probe(int probe) {
            if (probe < 4) {
                sheet(probe);
            } else if (probe == 4) {
                all();
            } else if (probe == 5) {
                foretold();
            } else if (probe == 6) {
                past();
            } else if (probe == 7) {
                ask("restore");
                all();
                past();
            } else {
                ask("type", ' ');
                ask("read");
                all();
                ask("type", ' ');
            }
        }

        private void all() {
            for (int what = 0; what < 8; what++) ask("count", what);
            for (int i = 0; i < ROOM; i++) {
                for (int what = 0; what < 5; what++) ask("of", i, what);
                for (int what = 0; what < 4; what++) ask("at", i, what);
            }
            ask("seed", 0);
            ask("drift", 1);
            ask("hours", 1);
        }

        private void foretold() {
            for (int i = 0; i < ROOM; i++) {
                ask("left", i, 5);
                ask("ahead", i, 20, 0);
                ask("falls", i);
                ask("without", i);
                ask("thickest", i, 4);
                ask("hops", i, 3, 0);
            }
            for (int sawyer = -2; sawyer < 5; sawyer++) {
                ask("best", sawyer);
                ask("most", 2, sawyer);
            }
            ask("then", 60);
            ask("noon");
            ask("sharp", 9, 1);
            ask("image");
        }

        private void past() {
            for (int n = 0; n < 9; n++) {
                ask("undo");
                ask("count", 2);
                ask("count", 7);
                for (int i = 0; i < ROOM; i++) {
                    ask("of", i, 2);
                    ask("at", i, 1);
                    ask("at", i, 2);
                }
                ask("seed", 5);
            }
        }

        /** Its lane, how many items it has, and which of them are 0, 1, 2, 3, 4. */
        private void sheet(int sheet) {
            ask("read");
            for (char c : "1,2,3,4,5-5;p0".toCharArray()) ask("type", c);
            ask("read");
            for (int lane = 0; lane < 4; lane++) {
                int answer = ask("dust", 0, 0, sheet, lane, 0, 1, 0);
                for (int i = 0; answer >= 0 && i < 24; i++) {
                    for (int plank = 0; plank < 5; plank++) ask("dust", plank, 0, sheet, lane, i, 1, 0);
                }
            }
            ask("drop", sheet);
        }
    }
}
