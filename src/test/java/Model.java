import java.util.ArrayDeque;
import java.util.ArrayList;
import java.util.Deque;
import java.util.List;

/**
 * The document once more, written as plainly as the library allows and with no thought of room or speed:
 * ModelTest holds NoonSaws against it. Nothing is remembered here from call to call but the state itself.
 */
final class Model {
    static final int BAD = -1, NOT = -2, FULL = -3, NONE = -4, NULL = -11, CAST = -12, INDEX = -13, SIZE = -14;

    static final class Plank {
        int thick, knotty, left;
        Plank(int thick, int knotty, int left) { this.thick = thick; this.knotty = knotty; this.left = left; }
        boolean fallen() { return left == 0; }
    }

    /** A kind that is below another asks that one first, as the document has it. */
    interface Kind { int cut(int teeth, Plank p, int hour); }
    static final Kind PLAIN = (t, p, h) -> Math.max(0, t - p.knotty / 2);
    static final Kind OLD = (t, p, h) -> PLAIN.cut(t, p, h) + Math.min(3, p.knotty);
    static final Kind GREEN = (t, p, h) -> PLAIN.cut(t, p, h) * (p.left == p.thick || p.left < 10 ? 2 : 1);
    static final Kind HOPPER = (t, p, h) -> h % 4 == 0 ? 0 : OLD.cut(t, p, h);
    static final Kind SMALL = (t, p, h) -> {
        int green = GREEN.cut(t, p, h);
        return green > 0 && green / 2 == 0 ? 1 : green / 2;
    };
    static final Kind[] KINDS = {PLAIN, OLD, GREEN, HOPPER, SMALL};

    static final class Sawyer {
        int kind, teeth, seat;
        Sawyer(int kind, int teeth, int seat) { this.kind = kind; this.teeth = teeth; this.seat = seat; }
    }

    static final class State {
        List<Plank> planks = new ArrayList<>();
        List<Sawyer> sawyers = new ArrayList<>();
        int hour = 0;
        long draw = 1;

        State twin() {
            State t = new State();
            for (Plank p : planks) t.planks.add(new Plank(p.thick, p.knotty, p.left));
            for (Sawyer s : sawyers) t.sawyers.add(new Sawyer(s.kind, s.teeth, s.seat));
            t.hour = hour;
            t.draw = draw;
            return t;
        }

        int cut(Sawyer s) {
            if (s.seat == NONE || planks.get(s.seat).fallen()) return 0;
            return KINDS[s.kind].cut(s.teeth, planks.get(s.seat), hour);
        }

        State hour() {
            State next = twin();
            for (int i = 0; i < sawyers.size(); i++) {
                int cut = cut(sawyers.get(i));
                if (cut == 0) continue;
                Plank p = next.planks.get(sawyers.get(i).seat);
                p.left = Math.max(0, p.left - cut);
                if (hour % 3 == 2) next.sawyers.get(i).teeth = Math.max(0, next.sawyers.get(i).teeth - 1);
            }
            int to = 0;
            for (int p = 0; p < planks.size(); p++) if (next.planks.get(p).left > next.planks.get(to).left) to = p;
            for (Sawyer s : next.sawyers) {
                if (s.seat != NONE && next.planks.get(s.seat).fallen() && !next.planks.get(to).fallen()) s.seat = to;
            }
            next.hour++;
            return next;
        }

        State hours(int n) {
            State s = this;
            for (int i = 0; i < n; i++) s = s.hour();
            return s;
        }

        int fallen() {
            int set = 0;
            for (int p = 0; p < planks.size(); p++) if (planks.get(p).fallen()) set += 1 << p;
            return set;
        }

        int leftOfAll() { return planks.stream().mapToInt(p -> p.left).sum(); }

        int noon() {
            State s = this;
            for (int n = 0; n <= 60; n++, s = s.hour()) if (s.leftOfAll() == 0) return n;
            return NONE;
        }
    }

    /** Never changed in place: the past and the image may hold the same one. */
    private State now = new State();
    private Deque<State> past = new ArrayDeque<>();
    private State imageState = null;
    private Deque<State> imagePast = null;
    private String tape = "";
    private final Object[] sheets = new Object[4];

    private static boolean in(long v, long low, long high) { return low <= v && v <= high; }
    private boolean isPlank(int p) { return in(p, 0, now.planks.size() - 1); }
    private boolean isSawyer(int s) { return in(s, 0, now.sawyers.size() - 1); }

    private void deed(State next) {
        past.addLast(now);
        if (past.size() > 8) past.removeFirst();
        now = next;
    }

    int plank(int thick, int knotty) {
        if (!in(thick, 1, 99) || !in(knotty, 0, 9)) return BAD;
        if (now.planks.size() == 5) return FULL;
        now = now.twin();
        now.planks.add(new Plank(thick, knotty, thick));
        past.clear();
        return now.planks.size() - 1;
    }

    int sawyer(int kind, int teeth) {
        if (!in(kind, 0, 4) || !in(teeth, 0, 9)) return BAD;
        if (now.sawyers.size() == 5) return FULL;
        now = now.twin();
        now.sawyers.add(new Sawyer(kind, teeth, NONE));
        past.clear();
        return now.sawyers.size() - 1;
    }

    int of(int plank, int what) {
        if (!isPlank(plank) || !in(what, 0, 4)) return BAD;
        Plank p = now.planks.get(plank);
        int sitting = 0, cut = 0;
        for (int s = 0; s < now.sawyers.size(); s++) {
            if (now.sawyers.get(s).seat != plank) continue;
            sitting |= 1 << s;
            cut += now.cut(now.sawyers.get(s));
        }
        return new int[] {p.thick, p.knotty, p.left, sitting, cut}[what];
    }

    int at(int sawyer, int what) {
        if (!isSawyer(sawyer) || !in(what, 0, 3)) return BAD;
        Sawyer s = now.sawyers.get(sawyer);
        return new int[] {s.kind, s.teeth, s.seat, now.cut(s)}[what];
    }

    int type(int letter) {
        if (!in(letter, 32, 126)) return BAD;
        if (tape.length() == 80) return FULL;
        tape += (char) letter;
        return tape.length();
    }

    /** What ends the reading of a text, and where. */
    private static final class Fault extends RuntimeException {
        private static final long serialVersionUID = 1;
        final int place;
        Fault(int place) { this.place = place; }
    }

    private String text;
    private int here;

    private char peek() {
        while (here < text.length() && text.charAt(here) == ' ') here++;
        return here < text.length() ? text.charAt(here) : '\n';
    }

    private char one(String letters) {
        char c = peek();
        if (letters.indexOf(c) < 0) throw new Fault(here);
        here++;
        return c;
    }

    private boolean perhaps(char c) {
        if (peek() != c) return false;
        here++;
        return true;
    }

    private int number(int low, int high) {
        String digits = "" + one("0123456789");
        int first = here - 1;
        if (here < text.length() && "0123456789".indexOf(text.charAt(here)) >= 0) digits += text.charAt(here++);
        int v = Integer.parseInt(digits);
        if (v < low || v > high) throw new Fault(first);
        return v;
    }

    private State parsed() {
        State s = new State();
        do {
            int thick = number(1, 99);
            int knotty = perhaps('%') ? one("0123456789") - '0' : 0;
            int cut = perhaps('-') ? number(0, thick) : 0;
            s.planks.add(new Plank(thick, knotty, thick - cut));
        } while (s.planks.size() < 5 && perhaps(','));
        if (perhaps(';')) {
            do {
                int kind = "poghs".indexOf(one("poghs"));
                int teeth = one("0123456789") - '0';
                int seat = perhaps('@') ? one("01234".substring(0, s.planks.size())) - '0' : NONE;
                s.sawyers.add(new Sawyer(kind, teeth, seat));
            } while (s.sawyers.size() < 5 && perhaps(','));
        }
        one("\n");
        return s;
    }

    int read() {
        text = tape;
        tape = "";
        here = 0;
        try {
            State s = parsed();
            s.draw = now.draw;
            now = s;
            past.clear();
            return s.planks.size();
        } catch (Fault f) {
            return -20 - f.place;
        }
    }

    int count(int what) {
        if (!in(what, 0, 7)) return BAD;
        int none = 0, teeth = 0;
        for (int s = 0; s < now.sawyers.size(); s++) {
            teeth += now.sawyers.get(s).teeth;
            if (now.sawyers.get(s).seat == NONE) none |= 1 << s;
        }
        return new int[] {now.planks.size(), now.sawyers.size(), now.hour, now.fallen(), now.leftOfAll(), teeth,
            none, past.size()}[what];
    }

    int hours(int n) {
        if (!in(n, 1, 40)) return BAD;
        if (now.hour + n > 9999) return FULL;
        for (int i = 0; i < n; i++) deed(now.hour());
        return now.fallen();
    }

    int set(int sawyer, int plank) {
        if (!isSawyer(sawyer) || !(plank == NONE || isPlank(plank))) return BAD;
        int was = now.sawyers.get(sawyer).seat;
        if (was == plank) return NOT;
        State next = now.twin();
        next.sawyers.get(sawyer).seat = plank;
        deed(next);
        return was;
    }

    int sharpen(int sawyer, int n) {
        if (!isSawyer(sawyer) || !in(n, 1, 9)) return BAD;
        if (now.sawyers.get(sawyer).teeth == 9) return NOT;
        State next = now.twin();
        Sawyer s = next.sawyers.get(sawyer);
        s.teeth = Math.min(9, s.teeth + n);
        deed(next);
        return s.teeth;
    }

    int soak(int plank, int n) {
        if (!isPlank(plank) || !in(n, 1, 99)) return BAD;
        if (now.planks.get(plank).fallen() || now.planks.get(plank).left == 99) return NOT;
        State next = now.twin();
        Plank p = next.planks.get(plank);
        p.left = Math.min(99, p.left + n);
        deed(next);
        return p.left;
    }

    int drift(int n) {
        if (!in(n, 1, 40)) return BAD;
        if (now.hour + n > 9999) return FULL;
        for (int i = 0; i < n; i++) {
            State next = now.twin();
            next.draw = Math.floorMod(next.draw * 1103515245L + 12345L, 1L << 31);
            if (!now.sawyers.isEmpty() && !now.planks.isEmpty()) {
                int who = (int) (next.draw / 65536 % now.sawyers.size());
                next.sawyers.get(who).seat = (int) (next.draw / 128 % now.planks.size());
            }
            deed(next.hour());
        }
        return now.fallen();
    }

    int undo() {
        if (past.isEmpty()) return NONE;
        now = past.removeLast();
        return past.size();
    }

    int seed(int v) {
        if (v < 0) return BAD;
        int was = (int) now.draw;
        now = now.twin();
        now.draw = v;
        return was;
    }

    int left(int plank, int n) {
        return !isPlank(plank) || !in(n, 0, 60) ? BAD : now.hours(n).planks.get(plank).left;
    }

    int ahead(int sawyer, int n, int what) {
        if (!isSawyer(sawyer) || !in(n, 0, 60) || !in(what, 0, 1)) return BAD;
        Sawyer s = now.hours(n).sawyers.get(sawyer);
        return what == 0 ? s.teeth : s.seat;
    }

    int then(int n) { return in(n, 0, 60) ? now.hours(n).fallen() : BAD; }

    int falls(int plank) {
        if (!isPlank(plank)) return BAD;
        for (int n = 0; n <= 60; n++) if (now.hours(n).planks.get(plank).fallen()) return n;
        return NONE;
    }

    int noon() { return now.noon(); }

    interface Worth { int of(State s); }

    /** Least worth, then fewest set otherwise, then the first: {worth, how many, seats ..}. */
    private int[] search(Worth worth) {
        int planks = now.planks.size(), sawyers = now.sawyers.size();
        int[] best = null;
        for (int way = 0; way < Math.pow(planks, sawyers); way++) {
            State s = now.twin();
            int[] found = new int[2 + sawyers];
            for (int i = sawyers - 1, w = way; i >= 0; i--, w /= planks) {
                found[2 + i] = w % planks;
                if (found[2 + i] != s.sawyers.get(i).seat) found[1]++;
                s.sawyers.get(i).seat = w % planks;
            }
            found[0] = worth.of(s);
            if (best == null || found[0] < best[0] || found[0] == best[0] && found[1] < best[1]) best = found;
        }
        return best;
    }

    int best(int sawyer) {
        if (!in(sawyer, -2, now.sawyers.size() - 1)) return BAD;
        if (now.sawyers.isEmpty() || now.planks.isEmpty()) return NONE;
        int[] found = search(s -> s.noon() == NONE ? 1000 : s.noon());
        return sawyer == -1 ? (found[0] == 1000 ? NONE : found[0]) : sawyer == -2 ? found[1] : found[2 + sawyer];
    }

    int most(int n, int sawyer) {
        if (!in(n, 1, 30) || !in(sawyer, -2, now.sawyers.size() - 1)) return BAD;
        if (now.sawyers.isEmpty() || now.planks.isEmpty()) return NONE;
        int[] found = search(s -> -Integer.bitCount(s.hours(n).fallen()));
        return sawyer == -1 ? -found[0] : sawyer == -2 ? found[1] : found[2 + sawyer];
    }

    int sharp(int n, int what) {
        if (!in(n, 1, 40) || !in(what, 0, 1)) return BAD;
        int who = NONE, least = Integer.MAX_VALUE;
        for (int s = 0; s < now.sawyers.size(); s++) {
            State t = now.twin();
            t.sawyers.get(s).teeth = Math.min(9, t.sawyers.get(s).teeth + 3);
            int left = t.hours(n).leftOfAll();
            if (left < least) { least = left; who = s; }
        }
        return who == NONE || what == 0 ? who : least;
    }

    int without(int sawyer) {
        if (!isSawyer(sawyer)) return BAD;
        State t = now.twin();
        t.sawyers.get(sawyer).seat = NONE;
        return t.noon();
    }

    int thickest(int plank, int n) {
        if (!isPlank(plank) || !in(n, 1, 40)) return BAD;
        int greatest = -99;
        for (int left = 0; left <= 99; left++) {
            State t = now.twin();
            t.planks.get(plank).left = left;
            if (t.hours(n).planks.get(plank).fallen()) greatest = left;
        }
        return greatest;
    }

    /** Out of 100000: all sawyers there could be hop apart, so that each of 32 cases has its own share. */
    int hops(int plank, int c, int what) {
        if (!isPlank(plank) || !in(c, 0, 10) || !in(what, 0, 1)) return BAD;
        int above = 0, below = 100000;
        for (int hopping = 0; hopping < 32; hopping++) {
            int share = 1, cut = 0;
            for (int s = 0; s < 5; s++) {
                boolean hops = (hopping >> s & 1) == 1;
                share *= hops ? c : 10 - c;
                boolean sits = s < now.sawyers.size() && now.sawyers.get(s).seat == plank;
                if (!hops && sits) cut += now.cut(now.sawyers.get(s));
            }
            if (cut >= now.planks.get(plank).left) above += share;
        }
        for (int d = 2; d <= 5; d += 3) while (above % d == 0 && below % d == 0) { above /= d; below /= d; }
        return what == 0 ? above : below;
    }

    int image() {
        imageState = now.twin();
        imagePast = new ArrayDeque<>(past);
        return 1;
    }

    int restore() {
        if (imageState == null) return NONE;
        now = imageState.twin();
        past = new ArrayDeque<>(imagePast);
        return 1;
    }

    // Sheets are real rows here: what the machine finds is what the machine throws.

    private long[] taken(int sheet, int lane, int i, int n) {
        long[] row = new long[n];
        for (int k = 0; k < n; k++) {
            row[k] = lane == 0 ? ((byte[]) sheets[sheet])[i + k] : lane == 1 ? ((short[]) sheets[sheet])[i + k]
                : lane == 2 ? ((int[]) sheets[sheet])[i + k] : ((long[]) sheets[sheet])[i + k];
        }
        return row;
    }

    private void give(int sheet, int lane, int i, long v) {
        if (lane == 0) ((byte[]) sheets[sheet])[i] = (byte) v;
        if (lane == 1) ((short[]) sheets[sheet])[i] = (short) v;
        if (lane == 2) ((int[]) sheets[sheet])[i] = (int) v;
        if (lane == 3) ((long[]) sheets[sheet])[i] = v;
    }

    private int finding(RuntimeException e) {
        if (e instanceof NullPointerException) return NULL;
        if (e instanceof ClassCastException || e instanceof ArrayStoreException) return CAST;
        if (e instanceof IndexOutOfBoundsException) return INDEX;
        if (e instanceof NegativeArraySizeException) return SIZE;
        throw e;
    }

    int dust(int plank, int sawyer, int sheet, int lane, int i, int n, int what) {
        if (!isPlank(plank) || !isSawyer(sawyer) || !in(sheet, 0, 3) || !in(lane, 0, 3)) return BAD;
        if (!in(n, 1, 8) || !in(what, 0, 2)) return BAD;
        long[] row;
        try {
            row = taken(sheet, lane, i, n);
        } catch (RuntimeException e) {
            return finding(e);
        }
        int set = 0;
        for (int guess = 0; guess < new int[] {5, 10, now.planks.size()}[what]; guess++) {
            State t = now.twin();
            if (what == 0) t.sawyers.get(sawyer).kind = guess;
            if (what == 1) t.sawyers.get(sawyer).teeth = guess;
            if (what == 2) t.sawyers.get(sawyer).seat = guess;
            boolean fits = true;
            for (int k = 0; k < n; k++) fits &= t.hours(k + 1).planks.get(plank).left == row[k];
            if (fits) set |= 1 << guess;
        }
        return set;
    }

    int film(int plank, int n, int sheet, int lane, int i) {
        if (!isPlank(plank) || !in(n, 1, 24) || !in(sheet, 0, 3) || !in(lane, 0, 3)) return BAD;
        try {
            taken(sheet, lane, i, n);
        } catch (RuntimeException e) {
            return finding(e);
        }
        for (int k = 0; k < n; k++) give(sheet, lane, i + k, now.hours(k + 1).planks.get(plank).left);
        return n;
    }

    int sheet(int sheet, int lane, int n) {
        if (!in(sheet, 0, 3) || !in(lane, 0, 3) || n > 24) return BAD;
        try {
            sheets[sheet] = lane == 0 ? new byte[n] : lane == 1 ? new short[n] : lane == 2 ? new int[n] : new long[n];
            return n;
        } catch (RuntimeException e) {
            return finding(e);
        }
    }

    int drop(int sheet) {
        if (!in(sheet, 0, 3)) return BAD;
        try {
            int had = java.lang.reflect.Array.getLength(sheets[sheet]);
            sheets[sheet] = null;
            return had;
        } catch (RuntimeException e) {
            return finding(e);
        }
    }

    int item(int sheet, int lane, int i, long v) {
        if (!in(sheet, 0, 3) || !in(lane, 0, 3)) return BAD;
        if (sheets[sheet] == null) return NULL;
        try {
            give(sheet, lane, i, v);
            return 1;
        } catch (RuntimeException e) {
            return finding(e);
        }
    }

    int copy(int from, int i, int to, int j, int n) {
        if (!in(from, 0, 3) || !in(to, 0, 3)) return BAD;
        try {
            System.arraycopy(sheets[from], i, sheets[to], j, n);
            return n;
        } catch (RuntimeException e) {
            return finding(e);
        }
    }
}
