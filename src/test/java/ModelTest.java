import java.lang.reflect.InvocationTargetException;
import java.lang.reflect.Method;
import java.util.Arrays;
import java.util.HashMap;
import java.util.Map;
import java.util.Random;

/** Long runs of calls, each answer held against the plain model's; the runs are the same every time. */
public final class ModelTest {
    private static final int RUNS = 600;
    private static final int CALLS = 511;
    private static final int[] WILD = {Integer.MIN_VALUE, Integer.MIN_VALUE + 1, -100, -5, -4, -3, -2, -1, 0, 5, 9, 10,
        24, 25, 31, 41, 61, 99, 100, 1000, Integer.MAX_VALUE - 1, Integer.MAX_VALUE};
    private static final String ALPHABET = "0123456789,,;;%%--@@poghs  x";

    private static final Map<String, Method> REAL = new HashMap<>();
    private static final Map<String, Method> PLAIN = new HashMap<>();

    /** How often each call comes, and what its arguments are: a letter each. */
    private static final String[] CALL_LIST = {
        "3 plank t d", "3 sawyer k d", "4 of p 5", "4 at s 4", "1 type l", "1 read", "6 count 8",
        "5 hours h", "6 set s p", "3 sharpen s n", "3 soak p t", "3 drift h", "4 undo", "1 seed v",
        "3 left p f", "3 ahead s f 2", "2 then f", "2 falls p", "2 noon", "1 best b", "1 most m b",
        "2 sharp f 2", "2 without s", "1 thickest p f", "4 hops p c 2", "1 image", "1 restore",
        "5 dust p s e e i g 3", "4 film p g e e i", "4 sheet e e w", "1 drop e", "5 item e e i o", "4 copy e i e i g",
        "4 text", "3 guess"
    };

    private static int wrong = 0;
    private static final StringBuilder LOG = new StringBuilder();

    public static void main(String[] args) throws Exception {
        for (Method m : NoonSaws.class.getDeclaredMethods()) REAL.put(m.getName(), m);
        for (Method m : Model.class.getDeclaredMethods()) PLAIN.put(m.getName(), m);
        for (int run = 0; run < RUNS && wrong == 0; run++) run(run);
        System.out.println(wrong == 0 ? RUNS + " runs are as the model's" : LOG.toString());
        if (wrong != 0) System.exit(1);
    }

    private static void run(int run) throws Exception {
        Random r = new Random(run);
        NoonSaws x = new NoonSaws();
        Model y = new Model();
        LOG.setLength(0);
        LOG.append("run ").append(run).append('\n');
        int sum = Arrays.stream(CALL_LIST).mapToInt(c -> c.charAt(0) - '0').sum();
        if (run % 7 == 0) grow(r, x, y);
        for (int calls = 0; calls < CALLS && wrong == 0; calls++) {
            int pick = r.nextInt(sum), c = 0;
            while ((pick -= CALL_LIST[c].charAt(0) - '0') >= 0) c++;
            String[] words = CALL_LIST[c].substring(2).split(" ");
            if (words[0].equals("text")) calls += tell(r, x, y);
            else if (words[0].equals("guess")) calls += filmAndGuess(r, x, y);
            else both(words[0], arguments(r, words), x, y);
        }
    }

    /** Late hours, so that the last one is met. */
    private static void grow(Random r, NoonSaws x, Model y) throws Exception {
        for (int i = 0; i < 245; i++) both("hours", new long[] {40}, x, y);
        for (int i = 0; i < 12; i++) both(r.nextBoolean() ? "drift" : "hours", new long[] {1 + r.nextInt(40)}, x, y);
    }

    private static int tell(Random r, NoonSaws x, Model y) throws Exception {
        StringBuilder text = new StringBuilder();
        int planks = 1 + r.nextInt(r.nextInt(4) == 0 ? 5 : 3), sawyers = r.nextInt(r.nextInt(4) == 0 ? 6 : 4);
        for (int p = 0; p < planks; p++) {
            int thick = 1 + r.nextInt(99);
            text.append(p == 0 ? "" : ",").append(thick);
            if (r.nextBoolean()) text.append('%').append(r.nextInt(10));
            if (r.nextInt(3) == 0) text.append('-').append(r.nextInt(thick + 1));
        }
        for (int s = 0; s < sawyers; s++) {
            text.append(s == 0 ? ";" : ",").append("poghs".charAt(r.nextInt(5))).append(r.nextInt(10));
            if (r.nextInt(4) != 0) text.append('@').append(r.nextInt(planks));
        }
        for (int i = r.nextInt(2) == 0 ? 0 : r.nextInt(4); i > 0; i--) spoil(r, text);
        for (int i = 0; i < text.length(); i++) both("type", new long[] {text.charAt(i)}, x, y);
        both("read", new long[0], x, y);
        return text.length() / 4;
    }

    private static void spoil(Random r, StringBuilder text) {
        int place = r.nextInt(text.length() + 1);
        char c = ALPHABET.charAt(r.nextInt(ALPHABET.length()));
        int how = r.nextInt(5);
        if (how == 0 && place < text.length()) text.setCharAt(place, c);
        else if (how == 1 && place < text.length() && text.length() > 1) text.deleteCharAt(place);
        else if (how == 2) text.insert(place, c);
        else if (how == 3 && place > 0) text.setLength(place);
        else text.insert(place, ' ');
    }

    /** A film of a plank, perhaps with one item spoiled, and all that can be guessed by it. */
    private static int filmAndGuess(Random r, NoonSaws x, Model y) throws Exception {
        int sheet = r.nextInt(4), lane = r.nextInt(4), i = r.nextInt(4), n = 1 + r.nextInt(8), plank = r.nextInt(3);
        both("sheet", new long[] {sheet, lane, 12}, x, y);
        both("film", new long[] {plank, n, sheet, lane, i}, x, y);
        if (r.nextInt(4) == 0) both("item", new long[] {sheet, lane, i + r.nextInt(n), r.nextInt(20)}, x, y);
        if (r.nextInt(3) == 0) both("sharpen", new long[] {r.nextInt(3), 1 + r.nextInt(3)}, x, y);
        for (int s = 0; s < 3; s++) {
            for (int what = 0; what < 3; what++) both("dust", new long[] {plank, s, sheet, lane, i, n, what}, x, y);
        }
        return 3;
    }

    private static long[] arguments(Random r, String[] words) {
        long[] a = new long[words.length - 1];
        for (int i = 0; i < a.length; i++) {
            a[i] = r.nextInt(25) == 0 ? WILD[r.nextInt(WILD.length)] : argument(r, words[i + 1].charAt(0));
        }
        return a;
    }

    private static long argument(Random r, char c) {
        switch (c) {
            case 't': return 1 + r.nextInt(r.nextBoolean() ? 99 : 15);
            case 'd': return r.nextInt(10);
            case 'k': return r.nextInt(5);
            case 'p': return r.nextInt(8) == 0 ? -4 : r.nextInt(3);
            case 's': return r.nextInt(3);
            case 'l': return ALPHABET.charAt(r.nextInt(ALPHABET.length()));
            case 'h': return r.nextInt(6) == 0 ? 1 + r.nextInt(40) : 1 + r.nextInt(4);
            case 'n': return 1 + r.nextInt(9);
            case 'v': return r.nextInt() & Integer.MAX_VALUE;
            case 'f': return 1 + r.nextInt(40);
            case 'b': return r.nextInt(6) - 2;
            case 'm': return 1 + r.nextInt(30);
            case 'c': return r.nextInt(11);
            case 'e': return r.nextInt(4);
            case 'i': return r.nextInt(6);
            case 'g': return r.nextInt(9);
            case 'w': return r.nextInt(25);
            case 'o': return r.nextBoolean() ? r.nextInt(100) : r.nextLong();
            default: return r.nextInt(c - '0');
        }
    }

    private static void both(String name, long[] a, NoonSaws x, Model y) throws Exception {
        int real = answer(REAL.get(name), a, x), due = answer(PLAIN.get(name), a, y);
        LOG.append(name).append(Arrays.toString(a)).append(' ').append(real).append('\n');
        if (real != due && wrong++ == 0) LOG.append("due is ").append(due).append('\n');
    }

    private static int answer(Method m, long[] a, Object o) throws Exception {
        Object[] boxed = new Object[a.length];
        Class<?>[] types = m.getParameterTypes();
        for (int i = 0; i < a.length; i++) boxed[i] = types[i] == long.class ? (Object) a[i] : (Object) (int) a[i];
        try {
            return (Integer) m.invoke(o, boxed);
        } catch (InvocationTargetException e) {
            LOG.append(m).append(Arrays.toString(a)).append(" threw ").append(e.getCause()).append('\n');
            wrong++;
            return 0;
        }
    }
}
