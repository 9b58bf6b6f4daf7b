/** Grasshoppers saw the noon: planks, sawyers, hours, and what can be foretold of them. README.md says how to use it. */
public final class NoonSaws {
    public static final int BAD = -1, NOT = -2, FULL = -3, NONE = -4, NULL = -11, CAST = -12, INDEX = -13, SIZE = -14;

    private static final int ROOM = 5;
    private static final int SHARPEST = 9;
    private static final int KNOTTIEST = 9;
    private static final int THICKEST = 99;
    private static final int LAST_HOUR = 9999;
    private static final int MOST_HOURS = 40;
    private static final int FORESIGHT = 60;
    /** The worth of a NOON that does not come: it is later than any that does. */
    private static final int LATE = FORESIGHT + 1;
    private static final int LOWEST_31_BITS = 0x7fffffff;
    private static final int SHEETS = 4;
    private static final int LANES = 4;
    private static final int SHEET_ITEMS = 24;

    private static final int PLAIN = 0, OLD = 1, GREEN = 2, HOPPER = 3, SMALL = 4;

    private final Noon now = new Noon();
    private final Past past = new Past();
    private final Noon imageNoon = new Noon();
    private final Past imagePast = new Past();
    private boolean imageKept;
    /** Whatever is only foretold is played through on this one, so that no call makes a new one. */
    private final Noon trial = new Noon();
    private final Search bestSearch = new Search();
    private final Search mostSearch = new Search();
    private final Tape tape = new Tape();
    private final Sheet[] sheets = new Sheet[SHEETS];

    public NoonSaws() {
        for (int i = 0; i < SHEETS; i++) {
            sheets[i] = new Sheet();
        }
    }

    // ---- 1 planks, sawyers

    public int plank(int thick, int knotty) {
        if (outside(thick, 1, THICKEST) || outside(knotty, 0, KNOTTIEST)) {
            return BAD;
        }
        int number = now.addPlank(thick, knotty, thick);
        if (number >= 0) {
            past.forget();
        }
        return number;
    }

    public int sawyer(int kind, int teeth) {
        if (outside(kind, PLAIN, SMALL) || outside(teeth, 0, SHARPEST)) {
            return BAD;
        }
        int number = now.addSawyer(kind, teeth, NONE);
        if (number >= 0) {
            past.forget();
        }
        return number;
    }

    public int of(int plank, int what) {
        if (noPlank(plank)) {
            return BAD;
        }
        switch (what) {
            case 0: return now.thick[plank];
            case 1: return now.knotty[plank];
            case 2: return now.left[plank];
            case 3: return now.sittersOn(plank);
            case 4: return now.cutByAll(now.sittersOn(plank));
            default: return BAD;
        }
    }

    public int at(int sawyer, int what) {
        if (noSawyer(sawyer)) {
            return BAD;
        }
        switch (what) {
            case 0: return now.kind[sawyer];
            case 1: return now.teeth[sawyer];
            case 2: return now.seat[sawyer];
            case 3: return now.cutOf(sawyer);
            default: return BAD;
        }
    }

    public int type(int letter) {
        if (outside(letter, 32, 126)) {
            return BAD;
        }
        return tape.addLetter((char) letter);
    }

    public int read() {
        int answer = tape.tellNoon(trial);
        tape.wipe();
        if (answer >= 0) {
            trial.draw = now.draw;
            now.takeAll(trial);
            past.forget();
        }
        return answer;
    }

    public int count(int what) {
        switch (what) {
            case 0: return now.planks;
            case 1: return now.sawyers;
            case 2: return now.hour;
            case 3: return now.fallenSet();
            case 4: return now.leftOfAll();
            case 5: return now.teethOfAll();
            case 6: return now.sittersOn(NONE);
            case 7: return past.known;
            default: return BAD;
        }
    }

    // ---- what is done

    public int hours(int n) {
        if (outside(n, 1, MOST_HOURS)) {
            return BAD;
        }
        if (now.hour + n > LAST_HOUR) {
            return FULL;
        }
        for (int i = 0; i < n; i++) {
            past.keep(now);
            now.passHour();
        }
        return now.fallenSet();
    }

    public int set(int sawyer, int plank) {
        if (noSawyer(sawyer) || (plank != NONE && noPlank(plank))) {
            return BAD;
        }
        int sat = now.seat[sawyer];
        if (sat == plank) {
            return NOT;
        }
        past.keep(now);
        now.seat[sawyer] = plank;
        return sat;
    }

    public int sharpen(int sawyer, int n) {
        if (noSawyer(sawyer) || outside(n, 1, 9)) {
            return BAD;
        }
        if (now.teeth[sawyer] == SHARPEST) {
            return NOT;
        }
        past.keep(now);
        now.addTeeth(sawyer, n);
        return now.teeth[sawyer];
    }

    public int soak(int plank, int n) {
        if (noPlank(plank) || outside(n, 1, 99)) {
            return BAD;
        }
        if (now.left[plank] == 0 || now.left[plank] == THICKEST) {
            return NOT;
        }
        past.keep(now);
        now.left[plank] = Math.min(THICKEST, now.left[plank] + n);
        return now.left[plank];
    }

    public int drift(int n) {
        if (outside(n, 1, MOST_HOURS)) {
            return BAD;
        }
        if (now.hour + n > LAST_HOUR) {
            return FULL;
        }
        for (int i = 0; i < n; i++) {
            past.keep(now);
            now.drawAndSet();
            now.passHour();
        }
        return now.fallenSet();
    }

    public int undo() {
        return past.giveBack(now) ? past.known : NONE;
    }

    public int seed(int v) {
        if (v < 0) {
            return BAD;
        }
        int was = now.draw;
        now.draw = v;
        return was;
    }

    // ---- 2 foretold

    public int left(int plank, int n) {
        if (noPlank(plank) || outside(n, 0, FORESIGHT)) {
            return BAD;
        }
        foretell(n);
        return trial.left[plank];
    }

    public int ahead(int sawyer, int n, int what) {
        if (noSawyer(sawyer) || outside(n, 0, FORESIGHT) || outside(what, 0, 1)) {
            return BAD;
        }
        foretell(n);
        return what == 0 ? trial.teeth[sawyer] : trial.seat[sawyer];
    }

    public int then(int n) {
        if (outside(n, 0, FORESIGHT)) {
            return BAD;
        }
        foretell(n);
        return trial.fallenSet();
    }

    public int falls(int plank) {
        if (noPlank(plank)) {
            return BAD;
        }
        trial.takeAll(now);
        for (int n = 0; n <= FORESIGHT; n++) {
            if (trial.left[plank] == 0) {
                return n;
            }
            trial.passHour();
        }
        return NONE;
    }

    public int noon() {
        trial.takeAll(now);
        return noonOfTrial();
    }

    public int best(int sawyer) {
        if (outside(sawyer, -2, now.sawyers - 1)) {
            return BAD;
        }
        if (nothingToSet()) {
            return NONE;
        }
        bestSearch.make(now, 0, trial);
        return sawyer == -1 ? orNone(bestSearch.worth) : bestSearch.told(sawyer);
    }

    public int most(int n, int sawyer) {
        if (outside(n, 1, 30) || outside(sawyer, -2, now.sawyers - 1)) {
            return BAD;
        }
        if (nothingToSet()) {
            return NONE;
        }
        mostSearch.make(now, n, trial);
        return sawyer == -1 ? now.planks - mostSearch.worth : mostSearch.told(sawyer);
    }

    public int sharp(int n, int what) {
        if (outside(n, 1, 40) || outside(what, 0, 1)) {
            return BAD;
        }
        int who = NONE;
        int least = NONE;
        for (int s = 0; s < now.sawyers; s++) {
            trial.takeAll(now);
            trial.addTeeth(s, 3);
            trial.passHours(n);
            int left = trial.leftOfAll();
            if (who == NONE || left < least) {
                who = s;
                least = left;
            }
        }
        return what == 0 ? who : least;
    }

    public int without(int sawyer) {
        if (noSawyer(sawyer)) {
            return BAD;
        }
        trial.takeAll(now);
        trial.seat[sawyer] = NONE;
        return noonOfTrial();
    }

    public int thickest(int plank, int n) {
        if (noPlank(plank) || outside(n, 1, 40)) {
            return BAD;
        }
        // From above, one by one: whoever comes from elsewhere makes it no matter of halving.
        for (int left = THICKEST; left > 0; left--) {
            trial.takeAll(now);
            trial.left[plank] = left;
            trial.passHours(n);
            if (trial.left[plank] == 0) {
                return left;
            }
        }
        return 0;
    }

    public int hops(int plank, int c, int what) {
        if (noPlank(plank) || outside(c, 0, 10) || outside(what, 0, 1)) {
            return BAD;
        }
        int sitters = now.sittersOn(plank);
        int above = 0;
        for (int cutting = 0; cutting < 1 << ROOM; cutting++) {
            boolean sit = (cutting & ~sitters) == 0;
            if (sit && now.cutByAll(cutting) >= now.left[plank]) {
                int hopping = sitters & ~cutting;
                above += power(10 - c, Integer.bitCount(cutting)) * power(c, Integer.bitCount(hopping));
            }
        }
        int below = power(10, Integer.bitCount(sitters));
        int shared = sharedDivisor(above, below);
        return what == 0 ? above / shared : below / shared;
    }

    public int image() {
        imageNoon.takeAll(now);
        imagePast.takePast(past);
        imageKept = true;
        return 1;
    }

    public int restore() {
        if (!imageKept) {
            return NONE;
        }
        now.takeAll(imageNoon);
        past.takePast(imagePast);
        return 1;
    }

    // ---- 3 sheets

    public int dust(int plank, int sawyer, int sheet, int lane, int i, int n, int what) {
        if (noPlank(plank) || noSawyer(sawyer) || noSheet(sheet) || noLane(lane)
                || outside(n, 1, 8) || outside(what, 0, 2)) {
            return BAD;
        }
        int refused = sheets[sheet].refusal(lane, i, n);
        if (refused != 0) {
            return refused;
        }
        int guesses = what == 0 ? SMALL + 1 : what == 1 ? SHARPEST + 1 : now.planks;
        int fitting = 0;
        for (int guess = 0; guess < guesses; guess++) {
            trial.takeAll(now);
            trial.suppose(sawyer, what, guess);
            if (trialShows(plank, sheets[sheet], i, n)) {
                fitting |= 1 << guess;
            }
        }
        return fitting;
    }

    public int film(int plank, int n, int sheet, int lane, int i) {
        if (noPlank(plank) || outside(n, 1, SHEET_ITEMS) || noSheet(sheet) || noLane(lane)) {
            return BAD;
        }
        int refused = sheets[sheet].refusal(lane, i, n);
        if (refused != 0) {
            return refused;
        }
        trial.takeAll(now);
        for (int k = 0; k < n; k++) {
            trial.passHour();
            sheets[sheet].put(i + k, trial.left[plank]);
        }
        return n;
    }

    public int sheet(int sheet, int lane, int n) {
        if (noSheet(sheet) || noLane(lane) || n > SHEET_ITEMS) {
            return BAD;
        }
        if (n < 0) {
            return SIZE;
        }
        sheets[sheet].begin(lane, n);
        return n;
    }

    public int drop(int sheet) {
        if (noSheet(sheet)) {
            return BAD;
        }
        return sheets[sheet].clear();
    }

    public int item(int sheet, int lane, int i, long v) {
        if (noSheet(sheet) || noLane(lane)) {
            return BAD;
        }
        int refused = sheets[sheet].refusal(lane, i, 1);
        if (refused != 0) {
            return refused;
        }
        sheets[sheet].put(i, v);
        return 1;
    }

    public int copy(int from, int i, int to, int j, int n) {
        if (noSheet(from) || noSheet(to)) {
            return BAD;
        }
        Sheet source = sheets[from];
        Sheet target = sheets[to];
        if (source.isNothing() || target.isNothing()) {
            return NULL;
        }
        if (source.lane != target.lane) {
            return CAST;
        }
        if (source.lacks(i, n) || target.lacks(j, n)) {
            return INDEX;
        }
        System.arraycopy(source.items, i, target.items, j, n);
        return n;
    }

    private static boolean outside(int v, int low, int high) {
        return v < low || v > high;
    }

    private boolean noPlank(int plank) {
        return plank < 0 || plank >= now.planks;
    }

    private boolean noSawyer(int sawyer) {
        return sawyer < 0 || sawyer >= now.sawyers;
    }

    private static boolean noSheet(int sheet) {
        return outside(sheet, 0, SHEETS - 1);
    }

    private static boolean noLane(int lane) {
        return outside(lane, 0, LANES - 1);
    }

    private boolean nothingToSet() {
        return now.planks == 0 || now.sawyers == 0;
    }

    private void foretell(int n) {
        trial.takeAll(now);
        trial.passHours(n);
    }

    private int noonOfTrial() {
        return orNone(trial.noonWithin(FORESIGHT, trial.mostCut()));
    }

    private static int orNone(int noon) {
        return noon == LATE ? NONE : noon;
    }

    private boolean trialShows(int plank, Sheet row, int i, int n) {
        for (int k = 0; k < n; k++) {
            trial.passHour();
            if (row.items[i + k] != trial.left[plank]) {
                return false;
            }
        }
        return true;
    }

    private static int power(int base, int times) {
        int product = 1;
        for (int i = 0; i < times; i++) {
            product *= base;
        }
        return product;
    }

    /** The greatest common divisor of two numbers that are not below 0; 1 at least, so that it can be divided by. */
    private static int sharedDivisor(int a, int b) {
        int greater = a;
        int lesser = b;
        for (int step = 0; step < 64 && lesser != 0; step++) {
            int over = greater % lesser;
            greater = lesser;
            lesser = over;
        }
        return Math.max(1, greater);
    }

    /** Planks and sawyers in one hour. */
    private static final class Noon {
        int planks;
        int sawyers;
        int hour;
        int draw = 1;
        final int[] thick = new int[ROOM];
        final int[] knotty = new int[ROOM];
        final int[] left = new int[ROOM];
        final int[] kind = new int[ROOM];
        final int[] teeth = new int[ROOM];
        final int[] seat = new int[ROOM];
        final int[] cuts = new int[ROOM];

        void empty() {
            planks = 0;
            sawyers = 0;
            hour = 0;
        }

        void takeAll(Noon from) {
            planks = from.planks;
            sawyers = from.sawyers;
            System.arraycopy(from.thick, 0, thick, 0, ROOM);
            System.arraycopy(from.knotty, 0, knotty, 0, ROOM);
            System.arraycopy(from.kind, 0, kind, 0, ROOM);
            takeMoment(from);
        }

        /** Only what hours, and what is done in them, can change: a search and the past need no more. */
        void takeMoment(Noon from) {
            hour = from.hour;
            draw = from.draw;
            System.arraycopy(from.left, 0, left, 0, ROOM);
            System.arraycopy(from.teeth, 0, teeth, 0, ROOM);
            System.arraycopy(from.seat, 0, seat, 0, ROOM);
        }

        /** Whether all that is foretold is alike for both (THE DRAW has no part in it). */
        boolean isLike(Noon other) {
            boolean like = planks == other.planks && sawyers == other.sawyers && hour == other.hour;
            for (int p = 0; like && p < planks; p++) {
                like = thick[p] == other.thick[p] && knotty[p] == other.knotty[p] && left[p] == other.left[p];
            }
            for (int s = 0; like && s < sawyers; s++) {
                like = kind[s] == other.kind[s] && teeth[s] == other.teeth[s] && seat[s] == other.seat[s];
            }
            return like;
        }

        int addPlank(int itsThick, int itsKnotty, int itsLeft) {
            if (planks >= ROOM) {
                return FULL;
            }
            thick[planks] = itsThick;
            knotty[planks] = itsKnotty;
            left[planks] = itsLeft;
            planks++;
            return planks - 1;
        }

        int addSawyer(int hisKind, int hisTeeth, int hisSeat) {
            if (sawyers >= ROOM) {
                return FULL;
            }
            kind[sawyers] = hisKind;
            teeth[sawyers] = hisTeeth;
            seat[sawyers] = hisSeat;
            sawyers++;
            return sawyers - 1;
        }

        void addTeeth(int sawyer, int n) {
            teeth[sawyer] = Math.min(SHARPEST, teeth[sawyer] + n);
        }

        /** For DUST: as if his kind (0), teeth (1) or seat (2) were another. */
        void suppose(int sawyer, int what, int guess) {
            if (what == 0) {
                kind[sawyer] = guess;
            } else if (what == 1) {
                teeth[sawyer] = guess;
            } else {
                seat[sawyer] = guess;
            }
        }

        int fallenSet() {
            int fallen = 0;
            for (int p = 0; p < planks; p++) {
                if (left[p] == 0) {
                    fallen |= 1 << p;
                }
            }
            return fallen;
        }

        int leftOfAll() {
            int sum = 0;
            for (int p = 0; p < planks; p++) {
                sum += left[p];
            }
            return sum;
        }

        int teethOfAll() {
            int sum = 0;
            for (int s = 0; s < sawyers; s++) {
                sum += teeth[s];
            }
            return sum;
        }

        int sittersOn(int plank) {
            int sitters = 0;
            for (int s = 0; s < sawyers; s++) {
                if (seat[s] == plank) {
                    sitters |= 1 << s;
                }
            }
            return sitters;
        }

        int cutByAll(int cutting) {
            int sum = 0;
            for (int s = 0; s < sawyers; s++) {
                if ((cutting >> s & 1) == 1) {
                    sum += cutOf(s);
                }
            }
            return sum;
        }

        int cutOf(int sawyer) {
            int plank = seat[sawyer];
            if (plank < 0 || left[plank] == 0) {
                return 0;
            }
            boolean atEdge = left[plank] == thick[plank] || left[plank] < 10;
            return cutBy(kind[sawyer], teeth[sawyer], knotty[plank], atEdge, hoppersRest());
        }

        private boolean hoppersRest() {
            return hour % 4 == 0;
        }

        private static int cutBy(int kind, int teeth, int knotty, boolean atEdge, boolean resting) {
            int plain = teeth > knotty / 2 ? teeth - knotty / 2 : 0;
            int old = plain + (knotty < 3 ? knotty : 3);
            int green = atEdge ? 2 * plain : plain;
            switch (kind) {
                case OLD: return old;
                case GREEN: return green;
                case HOPPER: return resting ? 0 : old;
                case SMALL: return green == 1 ? 1 : green / 2;
                default: return plain;
            }
        }

        /** No more than this can all together cut in any hour from now on: teeth only grow blunt by themselves. */
        int mostCut() {
            int sum = 0;
            for (int s = 0; s < sawyers; s++) {
                int his = 0;
                for (int p = 0; p < planks; p++) {
                    his = Math.max(his, cutBy(kind[s], teeth[s], knotty[p], true, false));
                }
                sum += his;
            }
            return sum;
        }

        /** One hour; false if no hour behind it can change anything any more. */
        boolean passHour() {
            // Where hoppers rest, an hour in which nothing happens says nothing of the next one.
            boolean stirs = hoppersRest();
            for (int s = 0; s < sawyers; s++) {
                cuts[s] = cutOf(s);
            }
            for (int s = 0; s < sawyers; s++) {
                if (cuts[s] > 0) {
                    left[seat[s]] = Math.max(0, left[seat[s]] - cuts[s]);
                    stirs = true;
                }
            }
            if (hour % 3 == 2) {
                growBlunt();
            }
            boolean gone = leaveFallen();
            hour++;
            return stirs || gone;
        }

        private void growBlunt() {
            for (int s = 0; s < sawyers; s++) {
                if (cuts[s] > 0 && teeth[s] > 0) {
                    teeth[s]--;
                }
            }
        }

        private boolean leaveFallen() {
            int to = NONE;
            for (int s = 0; s < sawyers; s++) {
                if (seat[s] >= 0 && left[seat[s]] == 0) {
                    to = to == NONE ? plankMostLeft() : to;
                    if (to == NONE) {
                        return false;
                    }
                    seat[s] = to;
                }
            }
            return to != NONE;
        }

        private int plankMostLeft() {
            int most = NONE;
            for (int p = 0; p < planks; p++) {
                if (left[p] > 0 && (most == NONE || left[p] > left[most])) {
                    most = p;
                }
            }
            return most;
        }

        void passHours(int n) {
            for (int i = 0; i < n; i++) {
                passHour();
            }
        }

        void drawAndSet() {
            draw = (draw * 1103515245 + 12345) & LOWEST_31_BITS;
            if (planks > 0 && sawyers > 0) {
                seat[draw / 65536 % sawyers] = draw / 128 % planks;
            }
        }

        /** Plays on until all are fallen: behind how many hours; LATE if not within the limit. */
        int noonWithin(int limit, int mostCut) {
            for (int n = 0; n <= limit; n++) {
                int left = leftOfAll();
                if (left == 0) {
                    return n;
                }
                if (left > mostCut * (limit - n) || !passHour()) {
                    return LATE;
                }
            }
            return LATE;
        }

        /** Plays on for some hours: how many planks are not fallen behind them. */
        int standingBehind(int hours) {
            boolean stirs = true;
            for (int n = 0; n < hours && stirs; n++) {
                stirs = passHour();
            }
            return planks - Integer.bitCount(fallenSet());
        }
    }

    /** What may be undone: the moments ahead of the latest deeds. */
    private static final class Past {
        private static final int MOMENTS = 8;

        final Noon[] moments = new Noon[MOMENTS];
        int known;
        int next;

        Past() {
            for (int i = 0; i < MOMENTS; i++) {
                moments[i] = new Noon();
            }
        }

        void forget() {
            known = 0;
        }

        void keep(Noon now) {
            moments[next].takeMoment(now);
            next = (next + 1) % MOMENTS;
            known = Math.min(MOMENTS, known + 1);
        }

        boolean giveBack(Noon now) {
            if (known == 0) {
                return false;
            }
            known--;
            next = (next + MOMENTS - 1) % MOMENTS;
            now.takeMoment(moments[next]);
            return true;
        }

        void takePast(Past from) {
            known = from.known;
            next = from.next;
            for (int i = 0; i < MOMENTS; i++) {
                moments[i].takeMoment(from.moments[i]);
            }
        }
    }

    /** Goes through all ways to set all: the one of least worth, then of fewest moves, then the first is found. */
    private static final class Search {
        /** What it was made for: asked the same again, it need not be made again. */
        final Noon madeFor = new Noon();
        final int[] seats = new int[ROOM];
        final int[] found = new int[ROOM];
        boolean made;
        /** For MOST its hours, and the worth is how many planks stand behind them; for BEST 0, and it is NOON. */
        int hours;
        int worth;
        int moves;
        int mostCut;

        int told(int sawyer) {
            return sawyer < 0 ? moves : found[sawyer];
        }

        void make(Noon now, int itsHours, Noon trial) {
            if (made && hours == itsHours && madeFor.isLike(now)) {
                return;
            }
            made = true;
            hours = itsHours;
            madeFor.takeAll(now);
            trial.takeAll(now);
            worth = LATE + 1;
            moves = ROOM + 1;
            mostCut = now.mostCut();
            for (int s = 0; s < ROOM; s++) {
                seats[s] = 0;
            }
            int ways = power(now.planks, now.sawyers);
            for (int way = 0; way < ways; way++) {
                weigh(trial);
                toNextWay();
            }
        }

        private void weigh(Noon trial) {
            int itsMoves = movesNow();
            // Of a way that is no better than the one found only so much need be known.
            int limit = itsMoves < moves ? worth : worth - 1;
            if (limit < 0) {
                return;
            }
            trial.takeMoment(madeFor);
            System.arraycopy(seats, 0, trial.seat, 0, ROOM);
            int itsWorth = hours > 0 ? trial.standingBehind(hours)
                    : trial.noonWithin(Math.min(FORESIGHT, limit), mostCut);
            if (itsWorth <= limit) {
                worth = itsWorth;
                moves = itsMoves;
                System.arraycopy(seats, 0, found, 0, ROOM);
            }
        }

        private int movesNow() {
            int sum = 0;
            for (int s = 0; s < madeFor.sawyers; s++) {
                if (seats[s] != madeFor.seat[s]) {
                    sum++;
                }
            }
            return sum;
        }

        /** The last sawyer's plank rises first, so that ways come in the order that the document asks. */
        private void toNextWay() {
            for (int s = madeFor.sawyers - 1; s >= 0; s--) {
                seats[s]++;
                if (seats[s] < madeFor.planks) {
                    return;
                }
                seats[s] = 0;
            }
        }
    }

    /** The letters typed, and how a noon is told by them. */
    private static final class Tape {
        private static final int LETTERS = 80;
        private static final int FIRST_FAULT = -20;
        private static final String KIND_LETTERS = "poghs";
        /** Stands behind the last letter; no letter that can be typed is like it. */
        private static final char END = (char) 0;

        final char[] letters = new char[LETTERS];
        int length;
        int place;

        int addLetter(char letter) {
            if (length >= LETTERS) {
                return FULL;
            }
            letters[length] = letter;
            length++;
            return length;
        }

        void wipe() {
            length = 0;
        }

        /** How many planks; else the fault, and then the noon is told in part only. */
        int tellNoon(Noon noon) {
            noon.empty();
            place = 0;
            boolean told = tellPlanks(noon) && (!takes(';') || tellSawyers(noon)) && nextLetter() == END;
            return told ? noon.planks : FIRST_FAULT - place;
        }

        private boolean tellPlanks(Noon noon) {
            for (int p = 0; p < ROOM; p++) {
                if (!tellPlank(noon)) {
                    return false;
                }
                if (p == ROOM - 1 || !takes(',')) {
                    return true;
                }
            }
            return true;
        }

        private boolean tellPlank(Noon noon) {
            int thick = takeNumber(1, THICKEST);
            if (thick < 0) {
                return false;
            }
            int knotty = takes('%') ? takeDigit(KNOTTIEST) : 0;
            if (knotty < 0) {
                return false;
            }
            int cut = takes('-') ? takeNumber(0, thick) : 0;
            return cut >= 0 && noon.addPlank(thick, knotty, thick - cut) >= 0;
        }

        private boolean tellSawyers(Noon noon) {
            for (int s = 0; s < ROOM; s++) {
                if (!tellSawyer(noon)) {
                    return false;
                }
                if (s == ROOM - 1 || !takes(',')) {
                    return true;
                }
            }
            return true;
        }

        private boolean tellSawyer(Noon noon) {
            int kind = KIND_LETTERS.indexOf(nextLetter());
            if (kind < 0) {
                return false;
            }
            place++;
            int teeth = takeDigit(SHARPEST);
            if (teeth < 0) {
                return false;
            }
            if (!takes('@')) {
                return noon.addSawyer(kind, teeth, NONE) >= 0;
            }
            int seat = takeDigit(noon.planks - 1);
            return seat >= 0 && noon.addSawyer(kind, teeth, seat) >= 0;
        }

        private char nextLetter() {
            while (place < length && letters[place] == ' ') {
                place++;
            }
            return letterHere();
        }

        private char letterHere() {
            return place < length ? letters[place] : END;
        }

        private boolean takes(char letter) {
            if (nextLetter() != letter) {
                return false;
            }
            place++;
            return true;
        }

        /** A digit; -1, and the place stays at it, if there is none or it is above the highest. */
        private int takeDigit(int highest) {
            int value = valueOf(nextLetter());
            if (value < 0 || value > highest) {
                return -1;
            }
            place++;
            return value;
        }

        /** A number; -1, and the place is at its first digit, if there is none or it is not as told. */
        private int takeNumber(int low, int high) {
            int value = valueOf(nextLetter());
            if (value < 0) {
                return -1;
            }
            int first = place;
            place++;
            int second = valueOf(letterHere());
            if (second >= 0) {
                place++;
                value = 10 * value + second;
            }
            if (outside(value, low, high)) {
                place = first;
                return -1;
            }
            return value;
        }

        private static int valueOf(char letter) {
            return letter >= '0' && letter <= '9' ? letter - '0' : -1;
        }
    }

    /** A row of a lane, or nothing; its items are made once, and kept as longs cut to the lane's bits. */
    private static final class Sheet {
        private static final int NOTHING = -1;

        final long[] items = new long[SHEET_ITEMS];
        int lane = NOTHING;
        int length;

        boolean isNothing() {
            return lane == NOTHING;
        }

        void begin(int itsLane, int n) {
            lane = itsLane;
            length = n;
            for (int i = 0; i < SHEET_ITEMS; i++) {
                items[i] = 0;
            }
        }

        int clear() {
            if (isNothing()) {
                return NULL;
            }
            lane = NOTHING;
            return length;
        }

        /** What the machine would find if n items from i on were taken as of a lane; 0: nothing. */
        int refusal(int asLane, int i, int n) {
            if (isNothing()) {
                return NULL;
            }
            if (lane != asLane) {
                return CAST;
            }
            return lacks(i, n) ? INDEX : 0;
        }

        boolean lacks(int i, int n) {
            return n < 0 || i < 0 || i > length - n;
        }

        void put(int i, long v) {
            switch (lane) {
                case 0: items[i] = (byte) v; break;
                case 1: items[i] = (short) v; break;
                case 2: items[i] = (int) v; break;
                default: items[i] = v; break;
            }
        }
    }
}
