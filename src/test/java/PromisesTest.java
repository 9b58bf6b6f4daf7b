/** Each promise by itself: ordinary calls, the edges that the document names, wrong ones. All numbers by hand. */
public final class PromisesTest {
    private static final int BAD = -1, NOT = -2, FULL = -3, NONE = -4, NULL = -11, CAST = -12, INDEX = -13, SIZE = -14;
    private static final int LOW = Integer.MIN_VALUE, HIGH = Integer.MAX_VALUE;

    private static int promise;

    private static void due(String call, long got, long want) {
        Check.due("promise " + promise + ": " + call, got, want);
    }

    private static int tell(NoonSaws x, String text) {
        for (int i = 0; i < text.length(); i++) x.type(text.charAt(i));
        return x.read();
    }

    private static NoonSaws noon(String text) {
        NoonSaws x = new NoonSaws();
        if (tell(x, text) < 0) throw new IllegalStateException(text);
        return x;
    }

    public static void main(String[] args) {
        promise = 1; newObject();
        promise = 2; plank();
        promise = 3; sawyer();
        promise = 4; of();
        promise = 5; at();
        promise = 6; type();
        promise = 7; read(); faults();
        promise = 8; count();
        promise = 9; hours(); moves();
        promise = 10; set();
        promise = 11; sharpen();
        promise = 12; soak();
        promise = 13; drift();
        promise = 14; undo();
        promise = 15; seed();
        promise = 16; left();
        promise = 17; ahead();
        promise = 18; then();
        promise = 19; falls();
        promise = 20; noon();
        promise = 21; best();
        promise = 22; most();
        promise = 23; sharp();
        promise = 24; without();
        promise = 25; thickest();
        promise = 26; hops();
        promise = 27; image();
        promise = 28; restore();
        promise = 29; dust();
        promise = 30; film();
        promise = 31; sheet();
        promise = 32; drop();
        promise = 33; item();
        promise = 34; copy();
        Check.end();
    }

    private static void newObject() {
        NoonSaws x = new NoonSaws();
        for (int what = 0; what < 8; what++) due("count(" + what + ")", x.count(what), 0);
        due("of(0, 0)", x.of(0, 0), BAD);
        due("at(0, 0)", x.at(0, 0), BAD);
        due("restore()", x.restore(), NONE);
        due("undo()", x.undo(), NONE);
        due("seed(1)", x.seed(1), 1);
        due("type('9')", x.type('9'), 1);
        for (int s = 0; s < 4; s++) due("drop(" + s + ")", x.drop(s), NULL);
    }

    private static void plank() {
        NoonSaws x = new NoonSaws();
        int[][] bad = {{0, 0}, {100, 0}, {-1, 0}, {LOW, 0}, {HIGH, 0}, {5, -1}, {5, 10}, {5, LOW}, {5, HIGH}};
        for (int[] b : bad) due("plank(" + b[0] + ", " + b[1] + ")", x.plank(b[0], b[1]), BAD);
        due("count(0)", x.count(0), 0);
        x.hours(1);
        due("plank(1, 0)", x.plank(1, 0), 0);
        due("count(7)", x.count(7), 0);
        x.hours(1);
        due("plank(99, 9)", x.plank(99, 9), 1);
        due("count(7)", x.count(7), 0);
        due("of(1, 0)", x.of(1, 0), 99);
        due("of(1, 1)", x.of(1, 1), 9);
        due("of(1, 2)", x.of(1, 2), 99);
        due("of(0, 2)", x.of(0, 2), 1);
        for (int p = 2; p < 5; p++) due("plank(7, 7)", x.plank(7, 7), p);
        x.hours(1);
        due("plank(0, 0) as the sixth", x.plank(0, 0), BAD);
        due("plank(7, 7) as the sixth", x.plank(7, 7), FULL);
        due("count(0)", x.count(0), 5);
        due("count(7), as it was refused", x.count(7), 1);
    }

    private static void sawyer() {
        NoonSaws x = new NoonSaws();
        int[][] bad = {{-1, 0}, {5, 0}, {LOW, 0}, {HIGH, 0}, {0, -1}, {0, 10}, {0, LOW}, {0, HIGH}};
        for (int[] b : bad) due("sawyer(" + b[0] + ", " + b[1] + ")", x.sawyer(b[0], b[1]), BAD);
        x.hours(1);
        due("sawyer(4, 0)", x.sawyer(4, 0), 0);
        due("count(7)", x.count(7), 0);
        due("sawyer(0, 9)", x.sawyer(0, 9), 1);
        due("at(0, 0)", x.at(0, 0), 4);
        due("at(1, 1)", x.at(1, 1), 9);
        due("at(1, 2)", x.at(1, 2), NONE);
        for (int s = 2; s < 5; s++) due("sawyer(1, 1)", x.sawyer(1, 1), s);
        x.hours(1);
        due("sawyer(5, 1) as the sixth", x.sawyer(5, 1), BAD);
        due("sawyer(1, 1) as the sixth", x.sawyer(1, 1), FULL);
        due("count(1)", x.count(1), 5);
        due("count(7), as it was refused", x.count(7), 1);
    }

    private static void of() {
        NoonSaws x = noon("20%5,30%9-10,9-9;p6@0,o6@0,g6@0,h6@0,s6@1");
        int[] of0 = {20, 5, 20, 15, 19}, of1 = {30, 9, 20, 16, 1}, of2 = {9, 0, 0, 0, 0};
        for (int what = 0; what < 5; what++) {
            due("of(0, " + what + ")", x.of(0, what), of0[what]);
            due("of(1, " + what + ")", x.of(1, what), of1[what]);
            due("of(2, " + what + ")", x.of(2, what), of2[what]);
        }
        x.set(0, 2);
        due("of(2, 3)", x.of(2, 3), 1);
        due("of(2, 4), fallen", x.of(2, 4), 0);
        int[][] bad = {{3, 0}, {-1, 0}, {NONE, 0}, {LOW, 0}, {HIGH, 0}, {0, -1}, {0, 5}, {0, LOW}, {0, HIGH}};
        for (int[] b : bad) due("of(" + b[0] + ", " + b[1] + ")", x.of(b[0], b[1]), BAD);
    }

    private static void at() {
        NoonSaws x = noon("20%5,40-10,40%9,30%2;p6@0,o6@0,g6@0,h6@0,s6@0");
        int[] kinds = {4, 7, 8, 0, 4};
        for (int s = 0; s < 5; s++) {
            due("at(" + s + ", 0)", x.at(s, 0), s);
            due("at(" + s + ", 1)", x.at(s, 1), 6);
            due("at(" + s + ", 2)", x.at(s, 2), 0);
            due("at(" + s + ", 3)", x.at(s, 3), kinds[s]);
        }
        x.set(1, 3);
        due("at(1, 3): as much more as it is knotty", x.at(1, 3), 7);
        x.set(2, 1);
        due("at(2, 3): green off the edges", x.at(2, 3), 6);
        x.soak(1, 10);
        due("at(2, 3): as much left as thick", x.at(2, 3), 12);
        x.soak(1, 1);
        due("at(2, 3): more left than thick", x.at(2, 3), 6);
        due("at(4, 3)", x.at(4, 3), 4);
        x.set(4, 2);
        due("at(4, 3): half of twice 2", x.at(4, 3), 2);
        x.set(4, NONE);
        due("at(4, 2)", x.at(4, 2), NONE);
        due("at(4, 3): on none", x.at(4, 3), 0);

        x = noon("40%9,40-20,40-31,40-30;s1@1,s5@1,s0@1,s3@0,g3@2");
        due("at(0, 3): half of 1", x.at(0, 3), 1);
        due("at(1, 3): half of 5", x.at(1, 3), 2);
        due("at(2, 3): green does nothing", x.at(2, 3), 0);
        due("at(3, 3): green does nothing", x.at(3, 3), 0);
        due("at(4, 3): less than 10", x.at(4, 3), 6);
        x.set(4, 3);
        due("at(4, 3): 10", x.at(4, 3), 3);

        x = noon("99%9;h2@0");
        int[] hopper = {0, 3, 3, 3, 0, 3};
        for (int h = 0; h < 6; h++, x.hours(1)) due("at(0, 3) in hour " + h, x.at(0, 3), hopper[h]);

        x = noon("9;p1");
        int[][] bad = {{1, 0}, {-1, 0}, {LOW, 0}, {HIGH, 0}, {0, -1}, {0, 4}, {0, LOW}, {0, HIGH}};
        for (int[] b : bad) due("at(" + b[0] + ", " + b[1] + ")", x.at(b[0], b[1]), BAD);
    }

    private static void type() {
        NoonSaws x = new NoonSaws();
        for (int b : new int[] {31, 127, -1, 0, LOW, HIGH, 32 + 256, 65536 + 57}) due("type(" + b + ")", x.type(b), BAD);
        due("type(32)", x.type(32), 1);
        due("type(126)", x.type(126), 2);
        for (int n = 3; n <= 80; n++) due("type(57)", x.type(57), n);
        due("type(57), the 81st", x.type(57), FULL);
        due("type(31), the 81st", x.type(31), BAD);
        due("read()", x.read(), -21);
        due("type(57)", x.type(57), 1);
    }

    private static void read() {
        NoonSaws x = new NoonSaws();
        x.seed(77);
        due("read", tell(x, "40%5,22,35%9-4,18%1-9,8;p7@0,o4@2,g5@1,h8@2,s9"), 5);
        int[][] planks = {{40, 5, 40}, {22, 0, 22}, {35, 9, 31}, {18, 1, 9}, {8, 0, 8}};
        int[][] sawyers = {{0, 7, 0}, {1, 4, 2}, {2, 5, 1}, {3, 8, 2}, {4, 9, NONE}};
        for (int i = 0; i < 5; i++) {
            for (int what = 0; what < 3; what++) {
                due("of(" + i + ", " + what + ")", x.of(i, what), planks[i][what]);
                due("at(" + i + ", " + what + ")", x.at(i, what), sawyers[i][what]);
            }
        }
        x.hours(2);
        x.noon();
        due("read", tell(x, " 0 7 "), -21);
        due("count(0): a fault leaves all", x.count(0), 5);
        due("count(2): a fault leaves all", x.count(2), 2);
        due("count(7): a fault leaves all", x.count(7), 2);
        due("read", tell(x, " 07 % 3 - 7 , 1 ; s 0 @ 1 , p 9 "), 2);
        due("of(0, 0)", x.of(0, 0), 7);
        due("of(0, 1)", x.of(0, 1), 3);
        due("of(0, 2)", x.of(0, 2), 0);
        due("at(0, 2)", x.at(0, 2), 1);
        due("count(1)", x.count(1), 2);
        due("count(2)", x.count(2), 0);
        due("count(7)", x.count(7), 0);
        due("seed: the draw stays", x.seed(1), 77);
        due("read", tell(x, "1"), 1);
        due("count(1)", x.count(1), 0);
        due("type", x.type('1'), 1);
        x.read();
        due("read", tell(x, "9-0;s9@0"), 1);
        due("of(0, 2)", x.of(0, 2), 9);
    }

    private static void faults() {
        String[] texts = {"", " ", "0", "00", "000", "100", "x", "5,", "5, ", "5x", "5 5", "55 ", " 0", "5%", "5%a", "5%12",
            "5% 1 2", "5-", "5-6", "5-06", "50-051", "5-5-5", "5-5%5", "5%5%5", "5,0", "5,,5", "1,2,3,4,5,6",
            "1,2,3,4,5,", "5;", "5;;", "5;p", "5;P5", "5;p5p", "5;p55", "5;p5@", "5;p5@1", "5,5;p5@1@1", "5;p5,", "5;q",
            "5;p5@ 4", "5;p1,p2,p3,p4,p5,p6", "5;p1;p2", "5;p1,,p2", ";p5", "-5", "5 ; h 3 @ 0 x", "5-100", "5~"};
        int[] places = {0, 1, 0, 0, 0, 2, 0, 2, 3, 1, 2, -1, 1, 2, 2, 3,
            5, 2, 2, 2, 5, 3, 3, 3, 2, 2, 9,
            9, 2, 2, 3, 2, 4, 4, 5, 5, 8, 5, 2,
            6, 16, 4, 5, 0, 0, 12, 2, 1};
        for (int i = 0; i < texts.length; i++) {
            due("read of '" + texts[i] + "'", tell(new NoonSaws(), texts[i]), places[i] < 0 ? 1 : -20 - places[i]);
        }
        NoonSaws x = new NoonSaws();
        for (int i = 0; i < 80; i++) x.type(' ');
        due("read of 80 blanks", x.read(), -100);
    }

    private static void count() {
        NoonSaws x = noon("40,9-9,30-10;p7@0,o4,g5@1");
        int[] due = {3, 3, 0, 2, 60, 16, 2, 0};
        for (int what = 0; what < 8; what++) due("count(" + what + ")", x.count(what), due[what]);
        x.hours(3);
        x.set(0, NONE);
        // Behind hour 0 green goes from the fallen one to plank 0; behind hour 2 he and plain are blunter.
        int[] then = {3, 3, 3, 2, 40 - 7 - 12 - 12 + 20, 14, 3, 4};
        for (int what = 0; what < 8; what++) due("count(" + what + ") then", x.count(what), then[what]);
        for (int b : new int[] {-1, 8, LOW, HIGH}) due("count(" + b + ")", x.count(b), BAD);
    }

    private static void hours() {
        NoonSaws x = noon("40%3,9;p5@0,p0@1,o0@0,p3");
        for (int b : new int[] {0, -1, 41, LOW, HIGH}) due("hours(" + b + ")", x.hours(b), BAD);
        due("hours(2)", x.hours(2), 0);
        due("of(0, 2)", x.of(0, 2), 40 - 2 * (4 + 3));
        due("at(0, 1)", x.at(0, 1), 5);
        due("hours(1)", x.hours(1), 0);
        due("at(0, 1): blunter behind hour 2", x.at(0, 1), 4);
        due("at(1, 1): has none to lose, cuts nothing", x.at(1, 1), 0);
        due("at(2, 1): has none to lose", x.at(2, 1), 0);
        due("at(3, 1): sits on none", x.at(3, 1), 3);
        due("count(2)", x.count(2), 3);
        due("count(7)", x.count(7), 3);
        due("hours(40)", x.hours(40), 3);
        due("count(7)", x.count(7), 8);
        x = new NoonSaws();
        for (int i = 0; i < 249; i++) x.hours(40);
        due("count(2)", x.count(2), 9960);
        due("hours(40)", x.hours(40), FULL);
        due("count(2), as it was refused", x.count(2), 9960);
        due("hours(41)", x.hours(41), BAD);
        due("hours(39)", x.hours(39), 0);
        due("count(2)", x.count(2), 9999);
        due("hours(1)", x.hours(1), FULL);
        due("drift(1)", x.drift(1), FULL);
    }

    /** Where those go whose plank is fallen, and that all cut by how all is ahead of the hour. */
    private static void moves() {
        NoonSaws x = noon("4,20,30,30;p9@0,p2@0,g9@3,p1");
        due("hours(1)", x.hours(1), 1);
        due("of(0, 2): 0 at least", x.of(0, 2), 0);
        due("of(3, 2)", x.of(3, 2), 12);
        due("at(0, 2): to the first of those of which most is left", x.at(0, 2), 2);
        due("at(1, 2)", x.at(1, 2), 2);
        due("at(3, 2): on none, he stays", x.at(3, 2), NONE);
        x = noon("9-9,1;p5@0");
        x.hours(1);
        due("at(0, 2): to one of which 1 is left", x.at(0, 2), 1);
        x = noon("9-9,7,8,8;p5@0");
        due("at(0, 3): fallen", x.at(0, 3), 0);
        x.hours(1);
        due("at(0, 2): who sat on a fallen one", x.at(0, 2), 2);
        due("of(2, 2): he cut nothing", x.of(2, 2), 8);
        x = noon("5,6;g3@0,g3@1,p9@0");
        due("hours(1)", x.hours(1), 3);
        due("at(0, 2): all are fallen, he stays", x.at(0, 2), 0);
        due("at(1, 2): all are fallen, he stays", x.at(1, 2), 1);
        x = noon("11-1;p1@0,g3@0");
        due("of(0, 4)", x.of(0, 4), 4);
        x.hours(1);
        due("of(0, 2): green cut by how it was ahead", x.of(0, 2), 6);
        x = noon("9;p9@0");
        x.hours(2);
        x.plank(50, 0);
        due("hours(1)", x.hours(1), 1);
        due("at(0, 1): in hour 2 he cut nothing", x.at(0, 1), 9);
        due("at(0, 2)", x.at(0, 2), 1);
    }

    private static void set() {
        NoonSaws x = noon("9,9-9;p5,p5@0");
        int[][] bad = {{2, 0}, {-1, 0}, {NONE, 0}, {LOW, 0}, {HIGH, 0}, {0, 2}, {0, -1}, {0, -2}, {0, -3}, {0, -5}, {0, LOW},
            {0, HIGH}};
        for (int[] b : bad) due("set(" + b[0] + ", " + b[1] + ")", x.set(b[0], b[1]), BAD);
        due("set(0, NONE)", x.set(0, NONE), NOT);
        due("set(1, 0)", x.set(1, 0), NOT);
        due("count(7)", x.count(7), 0);
        due("set(0, 1): a fallen one", x.set(0, 1), NONE);
        due("at(0, 2)", x.at(0, 2), 1);
        due("set(0, 0)", x.set(0, 0), 1);
        due("set(1, NONE)", x.set(1, NONE), 0);
        due("at(1, 2)", x.at(1, 2), NONE);
        due("count(7)", x.count(7), 3);
        due("count(2)", x.count(2), 0);
    }

    private static void sharpen() {
        NoonSaws x = noon("9;p5,p9");
        int[][] bad = {{2, 1}, {-1, 1}, {LOW, 1}, {HIGH, 1}, {0, 0}, {0, 10}, {0, -1}, {0, LOW}, {0, HIGH}, {1, 0}};
        for (int[] b : bad) due("sharpen(" + b[0] + ", " + b[1] + ")", x.sharpen(b[0], b[1]), BAD);
        due("sharpen(1, 1)", x.sharpen(1, 1), NOT);
        due("count(7)", x.count(7), 0);
        due("sharpen(0, 3)", x.sharpen(0, 3), 8);
        due("sharpen(0, 9)", x.sharpen(0, 9), 9);
        due("sharpen(0, 9)", x.sharpen(0, 9), NOT);
        due("at(0, 1)", x.at(0, 1), 9);
        due("count(7)", x.count(7), 2);
    }

    private static void soak() {
        NoonSaws x = noon("9,9-9,99,99-1");
        int[][] bad = {{4, 1}, {-1, 1}, {LOW, 1}, {HIGH, 1}, {0, 0}, {0, 100}, {0, -1}, {0, LOW}, {0, HIGH}, {1, 0}};
        for (int[] b : bad) due("soak(" + b[0] + ", " + b[1] + ")", x.soak(b[0], b[1]), BAD);
        due("soak(1, 1): fallen", x.soak(1, 1), NOT);
        due("soak(2, 1): 99 is left", x.soak(2, 1), NOT);
        due("count(7)", x.count(7), 0);
        due("soak(3, 99)", x.soak(3, 99), 99);
        due("soak(0, 7)", x.soak(0, 7), 16);
        due("of(0, 0): thick stays", x.of(0, 0), 9);
        due("of(0, 2)", x.of(0, 2), 16);
        due("soak(0, 99)", x.soak(0, 99), 99);
        due("count(7)", x.count(7), 3);
    }

    private static void drift() {
        // From 1: 1103527590, 377401575 (of 31 bits), by 65536: 16838, 5758; by 128: 8621309, 2948449.
        NoonSaws x = noon("90,90,90;p5,p4,p3,p2");
        for (int b : new int[] {0, -1, 41, LOW, HIGH}) due("drift(" + b + ")", x.drift(b), BAD);
        due("drift(1)", x.drift(1), 0);
        due("seed", x.seed(1103527590), 1103527590);
        int who = 16838 % 4, where = 8621309 % 3;
        for (int s = 0; s < 4; s++) due("at(" + s + ", 2)", x.at(s, 2), s == who ? where : NONE);
        due("of", x.of(where, 2), 90 - x.at(who, 1));
        due("count(7)", x.count(7), 1);
        due("drift(1)", x.drift(1), 0);
        due("seed", x.seed(377401575), 377401575);
        due("at", x.at(5758 % 4, 2), 2948449 % 3);
        due("count(2)", x.count(2), 2);
        due("undo()", x.undo(), 1);
        due("seed: the draw ahead of it", x.seed(1103527590), 1103527590);
        due("at: who was set is not", x.at(5758 % 4, 2), 5758 % 4 == who ? where : NONE);
        x.drift(40);
        due("count(7)", x.count(7), 8);
        x = new NoonSaws();
        due("drift(2) of nothing", x.drift(2), 0);
        due("seed: it is drawn all the same", x.seed(HIGH), 377401575);
        x.drift(1);
        due("seed: 31 bits", x.seed(0), (int) ((2147483647L * 1103515245L + 12345L) % 2147483648L));
        x.plank(5, 5);
        due("drift(2) of planks alone", x.drift(2), 0);
        x.sawyer(0, 1);
        due("drift(1) of one and one", x.drift(1), 0);
        due("at(0, 2)", x.at(0, 2), 0);
        x.undo();
        // 65535 more than 2 times 65536, by a seed that leads there; by 128 it is 1535.
        x = noon("90,90,90,90;p5,p4,p3,p2,p1");
        x.seed(seedFor(3 * 65536 - 1));
        x.drift(1);
        due("seed", x.seed(0), 3 * 65536 - 1);
        for (int s = 0; s < 5; s++) due("at(" + s + ", 2)", x.at(s, 2), s == 2 ? 3 : NONE);
        x.seed(seedFor(3 * 65536));
        x.drift(1);
        due("at(3, 2)", x.at(3, 2), 0);
        x = noon("5");
        x.hours(5);
        for (int i = 0; i < 248; i++) x.hours(40);
        due("count(2)", x.count(2), 9925);
        x.drift(40);
        due("drift(40)", x.drift(40), FULL);
        due("drift(34)", x.drift(34), 0);
    }

    /** What is drawn ahead of a draw: the one number of 31 bits by which that one comes next. */
    private static int seedFor(int draw) {
        int inverse = 1;
        for (int i = 0; i < 5; i++) inverse *= 2 - 1103515245 * inverse;
        return (draw - 12345) * inverse & HIGH;
    }

    private static void undo() {
        NoonSaws x = noon("40,30;p5@0,p4");
        due("undo()", x.undo(), NONE);
        x.seed(5);
        x.hours(3);
        x.set(1, 1);
        x.sharpen(0, 2);
        x.soak(1, 9);
        x.seed(6);
        due("undo() of soak", x.undo(), 5);
        due("of(1, 2)", x.of(1, 2), 30);
        due("seed: the draw as ahead of it", x.seed(7), 5);
        due("undo() of sharpen", x.undo(), 4);
        due("at(0, 1)", x.at(0, 1), 4);
        due("seed", x.seed(8), 5);
        due("undo() of set", x.undo(), 3);
        due("at(1, 2)", x.at(1, 2), NONE);
        due("undo() of an hour", x.undo(), 2);
        due("at(0, 1)", x.at(0, 1), 5);
        due("of(0, 2)", x.of(0, 2), 30);
        due("count(2)", x.count(2), 2);
        x.hours(1);
        due("undo()", x.undo(), 2);
        x.undo();
        due("undo()", x.undo(), 0);
        due("of(0, 2)", x.of(0, 2), 40);
        due("undo()", x.undo(), NONE);
        x.hours(12);
        x.set(0, NONE);
        for (int n = 7; n >= 0; n--) due("undo()", x.undo(), n);
        due("undo(): older ones are lost", x.undo(), NONE);
        due("count(2)", x.count(2), 5);
        x.hours(1);
        tell(x, "9");
        due("undo() behind a noon told", x.undo(), NONE);
    }

    private static void seed() {
        NoonSaws x = new NoonSaws();
        due("seed(-1)", x.seed(-1), BAD);
        due("seed(LOW)", x.seed(LOW), BAD);
        due("seed(0)", x.seed(0), 1);
        due("seed(HIGH)", x.seed(HIGH), 0);
        due("seed(3)", x.seed(3), HIGH);
        due("count(7)", x.count(7), 0);
        x.seed(0);
        x.drift(1);
        due("seed", x.seed(1), 12345);
    }

    private static void left() {
        NoonSaws x = noon("40%3,9;p5@0");
        int[] left = {40, 36, 32, 28, 25, 22, 19, 17, 15, 13, 12, 11, 10, 10};
        for (int n = 0; n < left.length; n++) due("left(0, " + n + ")", x.left(0, n), left[n]);
        due("left(0, 60)", x.left(0, 60), 10);
        due("left(1, 60)", x.left(1, 60), 9);
        due("of(0, 2): nothing is changed", x.of(0, 2), 40);
        due("count(2): nothing is changed", x.count(2), 0);
        x.hours(1);
        due("left(0, 2): from now", x.left(0, 2), 28);
        int[][] bad = {{2, 0}, {-1, 0}, {LOW, 0}, {HIGH, 0}, {0, -1}, {0, 61}, {0, LOW}, {0, HIGH}};
        for (int[] b : bad) due("left(" + b[0] + ", " + b[1] + ")", x.left(b[0], b[1]), BAD);
    }

    private static void ahead() {
        NoonSaws x = noon("10,20;p5@0,p3");
        int[] teeth = {5, 5, 5, 4, 4, 4, 3}, seat = {0, 0, 1, 1, 1, 1, 1};
        for (int n = 0; n < teeth.length; n++) {
            due("ahead(0, " + n + ", 0)", x.ahead(0, n, 0), teeth[n]);
            due("ahead(0, " + n + ", 1)", x.ahead(0, n, 1), seat[n]);
        }
        due("ahead(1, 60, 0)", x.ahead(1, 60, 0), 3);
        due("ahead(1, 60, 1)", x.ahead(1, 60, 1), NONE);
        due("at(0, 2): nothing is changed", x.at(0, 2), 0);
        due("at(0, 1): nothing is changed", x.at(0, 1), 5);
        int[][] bad = {{2, 0, 0}, {-1, 0, 0}, {LOW, 0, 0}, {HIGH, 0, 0}, {0, -1, 0}, {0, 61, 0}, {0, LOW, 0}, {0, 0, -1},
            {0, 0, 2}, {0, 0, HIGH}};
        for (int[] b : bad) due("ahead(" + b[0] + ", " + b[1] + ", " + b[2] + ")", x.ahead(b[0], b[1], b[2]), BAD);
    }

    private static void then() {
        NoonSaws x = noon("10,20,5-5;p5@0");
        // 5 5, then of the other one 5 4 4 4 3
        int[] fallen = {4, 4, 5, 5, 5, 5, 5, 7, 7};
        for (int n = 0; n < fallen.length; n++) due("then(" + n + ")", x.then(n), fallen[n]);
        due("then(60)", x.then(60), 7);
        due("count(3): nothing is changed", x.count(3), 4);
        for (int b : new int[] {-1, 61, LOW, HIGH}) due("then(" + b + ")", x.then(b), BAD);
    }

    private static void falls() {
        NoonSaws x = noon("10,20,5-5,30;p5@0");
        due("falls(0)", x.falls(0), 2);
        due("falls(1)", x.falls(1), NONE);
        due("falls(2)", x.falls(2), 0);
        for (int b : new int[] {-1, 4, NONE, LOW, HIGH}) due("falls(" + b + ")", x.falls(b), BAD);
        x = noon("60;p1@0");
        x.sharpen(0, 8);
        due("falls(0)", x.falls(0), 8);
        // Old without teeth cuts 1 of a plank that is knotty by 1, hour by hour.
        x = noon("60%1;o0@0");
        due("falls(0): the 60th", x.falls(0), 60);
        due("count(3): nothing is changed", x.count(3), 0);
        x = noon("61%1;o0@0");
        due("falls(0): the 61st", x.falls(0), NONE);
    }

    private static void noon() {
        due("noon() of nothing", new NoonSaws().noon(), 0);
        due("noon() of fallen ones", noon("5-5,6-6;p9").noon(), 0);
        due("noon()", noon("10,20;p5@0").noon(), 7);
        due("noon(): nobody sits", noon("10;p5").noon(), NONE);
        due("noon(): the 59th", noon("59%1;o0@0").noon(), 59);
        due("noon(): the 60th", noon("60%1;o0@0").noon(), 60);
        due("noon(): the 61st", noon("61%1;o0@0").noon(), NONE);
        // A hopper who does nothing in hour 0 is not at the end.
        due("noon(): hopped", noon("3%1;h0@0").noon(), 4);
        due("noon(): hopped twice", noon("4%1;h0@0").noon(), 6);
        NoonSaws x = noon("10,20;p5@0");
        x.hours(2);
        due("noon(): from now", x.noon(), 5);
        due("count(2): nothing is changed", x.count(2), 2);
    }

    private static void best() {
        NoonSaws x = new NoonSaws();
        due("best(-1)", x.best(-1), NONE);
        due("best(-2)", x.best(-2), NONE);
        due("best(0)", x.best(0), BAD);
        x.plank(9, 0);
        due("best(-1): no sawyers", x.best(-1), NONE);
        x = new NoonSaws();
        x.sawyer(0, 5);
        due("best(-1): no planks", x.best(-1), NONE);
        due("best(0): no planks", x.best(0), NONE);
        due("best(1)", x.best(1), BAD);

        x.plank(9, 0);
        x.plank(5, 0);
        due("best(-1)", x.best(-1), 3);
        due("best(0): 5 first, or 9 first", x.best(0), 0);

        // 9 and 6: each on his own, both fall at once; 9 on 0 and 6 on 1.
        x = noon("9,6;p6@0,p9@1");
        due("best(-1)", x.best(-1), 1);
        due("best(-2)", x.best(-2), 2);
        due("best(0)", x.best(0), 1);
        due("best(1)", x.best(1), 0);
        due("at(0, 2): nothing is changed", x.at(0, 2), 0);
        due("best(2)", x.best(2), BAD);
        for (int b : new int[] {-3, NONE, LOW, HIGH}) due("best(" + b + ")", x.best(b), BAD);
        x.set(0, 1);
        due("best(-2): asked again of another", x.best(-2), 1);
        x.undo();
        x.sharpen(0, 3);
        due("best(-2): sharpened", x.best(-2), 0);
        due("best(0)", x.best(0), 0);
        // Of like ones fewest set otherwise: both ways do, and he sits on 1.
        x = noon("9,9;p9@1");
        due("best(-1)", x.best(-1), 2);
        due("best(-2)", x.best(-2), 0);
        due("best(0)", x.best(0), 1);
        // Of like ones the first.
        x = noon("9,9;p9,p9");
        due("best(-1)", x.best(-1), 1);
        due("best(-2)", x.best(-2), 2);
        due("best(0)", x.best(0), 0);
        due("best(1)", x.best(1), 1);
        // None is later than any; then as they sit; who sits on none is set all the same.
        x = noon("99,99;p1@1,p1");
        due("best(-1)", x.best(-1), NONE);
        due("best(-2)", x.best(-2), 1);
        due("best(0)", x.best(0), 1);
        due("best(1)", x.best(1), 0);
        x = noon("9-9,9-9;p1@1,p1");
        due("best(-1): all are fallen", x.best(-1), 0);
        due("best(0)", x.best(0), 1);
        due("best(1)", x.best(1), 0);
        // A fallen plank is one to be set on, too: he goes on from there as well as any.
        x = noon("5-5,9;p0@0");
        due("best(0)", x.best(0), 0);
        // Twice by both of the green, at the edges.
        x = noon("8,8;g4@0,g4@0");
        due("best(-1)", x.best(-1), 1);
        due("best(-2)", x.best(-2), 1);
        due("best(0)", x.best(0), 0);
        x.soak(1, 1);
        due("best(-1): soaked", x.best(-1), 2);
        x.hours(1);
        due("best(-1): an hour later", x.best(-1), 1);
        x.restore();
        tell(x, "8;g4");
        due("best(-1): another noon", x.best(-1), 1);
        tell(x, "9;g4");
        due("best(-1): thicker", x.best(-1), 2);
        tell(x, "9%2;g4");
        due("best(-1): knottier", x.best(-1), 2);
        tell(x, "9%2;o4");
        due("best(-1): another kind", x.best(-1), 2);
        tell(x, "9%2;p4");
        due("best(-1): another kind", x.best(-1), 3);
        tell(x, "9%4;p4");
        due("best(-1): knottier", x.best(-1), 6);
        due("best(-1): the 60th", noon("60%1;o0").best(-1), 60);
        due("best(-1): the 61st", noon("61%1;o0").best(-1), NONE);
    }

    private static void most() {
        NoonSaws x = new NoonSaws();
        due("most(1, -1)", x.most(1, -1), NONE);
        due("most(1, 0)", x.most(1, 0), BAD);
        due("most(0, -1)", x.most(0, -1), BAD);
        x.plank(9, 0);
        due("most(1, -2): no sawyers", x.most(1, -2), NONE);
        x = noon("20,6,5;p6@0,p9@0");
        due("most(1, -1)", x.most(1, -1), 2);
        due("most(1, -2)", x.most(1, -2), 2);
        due("most(1, 0)", x.most(1, 0), 1);
        due("most(1, 1)", x.most(1, 1), 2);
        due("most(30, -1)", x.most(30, -1), 3);
        due("most(30, -2)", x.most(30, -2), 0);
        due("most(30, 1)", x.most(30, 1), 0);
        due("most(1, 1): asked again", x.most(1, 1), 2);
        x.set(0, 2);
        due("most(1, -2): asked again of another", x.most(1, -2), 1);
        due("most(1, 1)", x.most(1, 1), 1);
        // Nothing falls whatever is set: as they sit, who sits on none first.
        x = noon("99,99,9-9;p1@1,p1");
        due("most(1, -1): one that is fallen now", x.most(1, -1), 1);
        due("most(1, -2)", x.most(1, -2), 1);
        due("most(1, 0)", x.most(1, 0), 1);
        due("most(1, 1)", x.most(1, 1), 0);
        int[][] bad = {{0, 0}, {31, 0}, {-1, 0}, {LOW, 0}, {HIGH, 0}, {1, 2}, {1, -3}, {1, NONE}, {1, LOW}, {1, HIGH}};
        for (int[] b : bad) due("most(" + b[0] + ", " + b[1] + ")", x.most(b[0], b[1]), BAD);
    }

    private static void sharp() {
        NoonSaws x = new NoonSaws();
        due("sharp(1, 0)", x.sharp(1, 0), NONE);
        due("sharp(1, 1)", x.sharp(1, 1), NONE);
        due("sharp(0, 0)", x.sharp(0, 0), BAD);
        // He who has 8 gains 1, he who is green gains 3, and twice that while the plank is whole.
        x = noon("50,50;p8@0,p3,g3@1");
        due("sharp(1, 0)", x.sharp(1, 0), 2);
        due("sharp(1, 1)", x.sharp(1, 1), 100 - 8 - 12);
        due("sharp(2, 1)", x.sharp(2, 1), 100 - 16 - 18);
        due("at(2, 1): nothing is changed", x.at(2, 1), 3);
        // Of like ones the first, also one who has 9.
        x = noon("50;p9@0,p9@0");
        due("sharp(40, 0)", x.sharp(40, 0), 0);
        due("sharp(1, 1)", x.sharp(1, 1), 32);
        due("sharp(40, 1)", x.sharp(40, 1), 0);
        x = new NoonSaws();
        x.sawyer(0, 1);
        due("sharp(1, 1): no planks", x.sharp(1, 1), 0);
        int[][] bad = {{0, 0}, {41, 0}, {-1, 0}, {LOW, 0}, {HIGH, 0}, {1, -1}, {1, 2}, {1, LOW}, {1, HIGH}};
        for (int[] b : bad) due("sharp(" + b[0] + ", " + b[1] + ")", x.sharp(b[0], b[1]), BAD);
    }

    private static void without() {
        NoonSaws x = noon("20;p5@0,p5@0,p9");
        due("without(0)", x.without(0), 5);
        due("without(1)", x.without(1), 5);
        due("without(2): he sits on none as it is", x.without(2), 2);
        due("at(0, 2): nothing is changed", x.at(0, 2), 0);
        x.set(1, NONE);
        due("without(0)", x.without(0), NONE);
        for (int b : new int[] {-1, 3, LOW, HIGH}) due("without(" + b + ")", x.without(b), BAD);
        // From now on: he does not go to the other plank when his is fallen.
        x = noon("5,20;p5@0,p5@1");
        due("without(0): 5 5 5 4 1, then 4 1", x.without(0), 7);
    }

    private static void thickest() {
        NoonSaws x = noon("20%3,50,9-9;p5@0");
        due("thickest(0, 1)", x.thickest(0, 1), 4);
        due("thickest(0, 4)", x.thickest(0, 4), 15);
        due("thickest(1, 1)", x.thickest(1, 1), 0);
        due("thickest(0, 1)", noon("9;p1@0").thickest(0, 1), 1);
        due("thickest(2, 1): a fallen one, he comes too late", x.thickest(2, 1), 0);
        due("of(0, 2): nothing is changed", x.of(0, 2), 20);
        x = noon("50;g9@0");
        due("thickest(0, 1): thick stays, so that green cuts once", x.thickest(0, 1), 9);
        x = noon("15;g9@0");
        due("thickest(0, 1): as much as it is thick", x.thickest(0, 1), 15);
        x = noon("20;p9@0,p9@0,p9@0,p9@0,p9@0");
        due("thickest(0, 3): 99 at most", x.thickest(0, 3), 99);
        due("thickest(0, 40)", x.thickest(0, 40), 99);
        int[][] bad = {{1, 1}, {-1, 1}, {LOW, 1}, {HIGH, 1}, {0, 0}, {0, 41}, {0, -1}, {0, LOW}, {0, HIGH}};
        for (int[] b : bad) due("thickest(" + b[0] + ", " + b[1] + ")", x.thickest(b[0], b[1]), BAD);
    }

    private static void hops() {
        NoonSaws x = noon("50-40,9-9,9;p5@0,p5@0,p9@0,p4,p4@2");
        // 10 fall by 9 and a 5, or by both 5: all but (none, or one of them alone), at 7 of 10 each.
        fraction(x, 0, 3, 784, 1000);
        fraction(x, 0, 0, 1, 1);
        fraction(x, 0, 10, 0, 1);
        fraction(x, 0, 5, 1, 2);
        fraction(x, 1, 7, 1, 1);
        fraction(x, 2, 3, 0, 1);
        fraction(noon("1;p1@0,p1@0,p1@0,p1@0,p1@0"), 0, 9, 40951, 100000);
        fraction(noon("5;p1@0,p1@0,p1@0,p1@0,p1@0"), 0, 1, 59049, 100000);
        fraction(noon("5;p5@0"), 0, 4, 3, 5);
        fraction(noon("5%1;h9@0"), 0, 4, 0, 1);
        due("of(0, 2): nothing is changed", x.of(0, 2), 10);
        int[][] bad = {{3, 0, 0}, {-1, 0, 0}, {LOW, 0, 0}, {HIGH, 0, 0}, {0, -1, 0}, {0, 11, 0}, {0, LOW, 0}, {0, HIGH, 0},
            {0, 0, -1}, {0, 0, 2}};
        for (int[] b : bad) due("hops(" + b[0] + ", " + b[1] + ", " + b[2] + ")", x.hops(b[0], b[1], b[2]), BAD);
    }

    private static void fraction(NoonSaws x, int plank, int c, int above, int below) {
        int a = above, b = below;
        for (int d : new int[] {2, 2, 2, 2, 2, 5, 5, 5, 5, 5}) {
            if (a % d == 0 && b % d == 0) { a /= d; b /= d; }
        }
        due("hops(" + plank + ", " + c + ", 0)", x.hops(plank, c, 0), a);
        due("hops(" + plank + ", " + c + ", 1)", x.hops(plank, c, 1), b);
    }

    private static void image() {
        NoonSaws x = noon("40,30;p5@0,g4");
        due("image()", x.image(), 1);
        due("count(4): nothing is changed", x.count(4), 70);
        x.hours(1);
        due("image(): in place of the other", x.image(), 1);
        x.hours(1);
        x.restore();
        due("count(2)", x.count(2), 1);
    }

    private static void restore() {
        NoonSaws x = noon("40,30;p5@0,g4");
        due("restore()", x.restore(), NONE);
        x.seed(9);
        x.hours(2);
        x.set(1, 1);
        x.type('7');
        x.sheet(0, 0, 7);
        x.image();
        x.hours(12);
        x.type('8');
        x.sheet(0, 1, 8);
        x.plank(5, 5);
        x.sawyer(4, 4);
        x.seed(10);
        due("restore()", x.restore(), 1);
        due("count(0)", x.count(0), 2);
        due("count(1)", x.count(1), 2);
        due("count(2)", x.count(2), 2);
        due("count(4)", x.count(4), 60);
        due("at(1, 2)", x.at(1, 2), 1);
        due("seed", x.seed(9), 9);
        due("count(7)", x.count(7), 3);
        due("undo()", x.undo(), 2);
        due("at(1, 2)", x.at(1, 2), NONE);
        due("undo()", x.undo(), 1);
        due("of(0, 2)", x.of(0, 2), 35);
        due("drop(0): sheets stay", x.drop(0), 8);
        due("type: the tape stays", x.type(' '), 3);
        due("read()", x.read(), 1);
        due("of(0, 0)", x.of(0, 0), 78);
        due("restore(): once more", x.restore(), 1);
        due("count(4)", x.count(4), 60);
        due("count(7)", x.count(7), 3);
        due("drop(0)", x.drop(0), NULL);
        x.hours(20);
        x.image();
        x.drift(20);
        x.restore();
        for (int n = 7; n >= 0; n--) {
            due("undo()", x.undo(), n);
            due("count(2)", x.count(2), 14 + n);
        }
    }

    private static void dust() {
        NoonSaws x = noon("40,30%4;p5@0,p2");
        x.sheet(0, 0, 10);
        x.film(0, 8, 0, 0, 1);
        // 35 30 25 21 17 13 10 7: green would take 10 first, small 5, then 2; old as plain, where no knots are.
        due("dust: kinds", x.dust(0, 0, 0, 0, 1, 8, 0), 3);
        due("dust: kinds by one hour", x.dust(0, 0, 0, 0, 1, 1, 0), 1 + 2 + 16);
        due("dust: teeth", x.dust(0, 0, 0, 0, 1, 8, 1), 1 << 5);
        due("dust: planks", x.dust(0, 0, 0, 0, 1, 8, 2), 1);
        due("dust: of one who sits on none, kinds", x.dust(0, 1, 0, 0, 1, 8, 0), 31);
        due("dust: teeth", x.dust(0, 1, 0, 0, 1, 8, 1), 1023);
        due("dust: planks", x.dust(0, 1, 0, 0, 1, 8, 2), 2);
        due("dust: by nothing but blanks", x.dust(0, 1, 0, 0, 9, 1, 0), 0);
        due("count(4): nothing is changed", x.count(4), 70);
        x.item(0, 0, 1, 33);
        due("dust: teeth, 7", x.dust(0, 0, 0, 0, 1, 1, 1), 1 << 7);
        x.item(0, 0, 2, 26);
        due("dust: teeth by two hours, none", x.dust(0, 0, 0, 0, 1, 3, 1), 0);
        x.sheet(1, 3, 2);
        x.item(1, 3, 0, 35 + (1L << 32));
        due("dust: no bits of a long are lost", x.dust(0, 0, 1, 3, 0, 1, 0), 0);
        for (int s = 2; s < 4; s++) x.sheet(s, s, 2);
        due("NULL", noon("9;p1").dust(0, 0, 0, 0, 0, 1, 0), NULL);
        due("CAST", x.dust(0, 0, 2, 3, 9, 1, 0), CAST);
        due("INDEX", x.dust(0, 0, 2, 2, 1, 2, 0), INDEX);
        due("INDEX", x.dust(0, 0, 2, 2, -1, 1, 0), INDEX);
        due("INDEX", x.dust(0, 0, 2, 2, LOW, 8, 0), INDEX);
        due("INDEX", x.dust(0, 0, 2, 2, HIGH, 8, 0), INDEX);
        int[][] bad = {{2, 0, 0, 0, 0, 1, 0}, {-1, 0, 0, 0, 0, 1, 0}, {0, 2, 0, 0, 0, 1, 0}, {0, -1, 0, 0, 0, 1, 0},
            {0, 0, 4, 0, 0, 1, 0}, {0, 0, -1, 0, 0, 1, 0}, {0, 0, 0, 4, 0, 1, 0}, {0, 0, 0, -1, 0, 1, 0},
            {0, 0, 0, 0, 0, 0, 0}, {0, 0, 0, 0, 0, 9, 0}, {0, 0, 0, 0, 0, LOW, 0}, {0, 0, 0, 0, 0, 1, -1},
            {0, 0, 0, 0, 0, 1, 3}};
        for (int[] b : bad) {
            due("dust" + java.util.Arrays.toString(b), x.dust(b[0], b[1], b[2], b[3], b[4], b[5], b[6]), BAD);
        }
    }

    private static void film() {
        NoonSaws x = noon("40,9-9;p5@0");
        for (int lane = 0; lane < 4; lane++) {
            x.sheet(lane, lane, 24);
            due("film", x.film(0, 24, lane, lane, 0), 24);
            due("dust", x.dust(0, 0, lane, lane, 0, 8, 1), 32);
            due("film", x.film(1, 2, lane, lane, 22), 2);
            due("dust", x.dust(1, 0, lane, lane, 22, 2, 1), 1023);
        }
        due("of(0, 2): nothing is changed", x.of(0, 2), 40);
        due("count(2)", x.count(2), 0);
        due("film of 1", x.film(1, 1, 0, 0, 23), 1);
        x.sheet(0, 0, 5);
        due("INDEX", x.film(0, 3, 0, 0, 3), INDEX);
        due("INDEX", x.film(0, 3, 0, 0, -1), INDEX);
        due("INDEX", x.film(0, 3, 0, 0, HIGH), INDEX);
        due("INDEX", x.film(0, 3, 0, 0, LOW), INDEX);
        due("dust: as it was refused", x.dust(1, 0, 0, 0, 0, 5, 0), 31);
        due("CAST", x.film(0, 3, 0, 1, 3), CAST);
        x.drop(0);
        due("NULL", x.film(0, 3, 0, 1, 3), NULL);
        int[][] bad = {{2, 1, 1, 1, 0}, {-1, 1, 1, 1, 0}, {0, 0, 1, 1, 0}, {0, 25, 1, 1, 0}, {0, LOW, 1, 1, 0},
            {0, 1, 4, 1, 0}, {0, 1, -1, 1, 0}, {0, 1, 1, 4, 0}, {0, 1, 1, -1, 0}, {0, 25, 0, 0, 0}};
        for (int[] b : bad) due("film" + java.util.Arrays.toString(b), x.film(b[0], b[1], b[2], b[3], b[4]), BAD);
    }

    private static void sheet() {
        NoonSaws x = noon("9-9;p5");
        due("sheet(0, 0, 0)", x.sheet(0, 0, 0), 0);
        due("item(0, 0, 0, 1)", x.item(0, 0, 0, 1), INDEX);
        due("sheet(3, 3, 24)", x.sheet(3, 3, 24), 24);
        x.item(3, 3, 5, 77);
        due("sheet(3, 3, 20)", x.sheet(3, 3, 20), 20);
        due("dust: a new row is of 0s", x.dust(0, 0, 3, 3, 4, 3, 0), 31);
        due("sheet(3, 3, -1)", x.sheet(3, 3, -1), SIZE);
        due("sheet(3, 3, LOW)", x.sheet(3, 3, LOW), SIZE);
        due("sheet(3, 3, 25)", x.sheet(3, 3, 25), BAD);
        due("sheet(3, 3, HIGH)", x.sheet(3, 3, HIGH), BAD);
        due("sheet(4, 3, -1)", x.sheet(4, 3, -1), BAD);
        due("sheet(-1, 3, 1)", x.sheet(-1, 3, 1), BAD);
        due("sheet(3, 4, -1)", x.sheet(3, 4, -1), BAD);
        due("sheet(3, -1, 1)", x.sheet(3, -1, 1), BAD);
        due("drop(3): as it was refused", x.drop(3), 20);
    }

    private static void drop() {
        NoonSaws x = new NoonSaws();
        due("drop(0)", x.drop(0), NULL);
        x.sheet(0, 2, 7);
        x.sheet(1, 2, 0);
        due("drop(0)", x.drop(0), 7);
        due("drop(0)", x.drop(0), NULL);
        due("drop(1)", x.drop(1), 0);
        due("item(1, 2, 0, 0)", x.item(1, 2, 0, 0), NULL);
        for (int b : new int[] {-1, 4, LOW, HIGH}) due("drop(" + b + ")", x.drop(b), BAD);
    }

    private static void item() {
        NoonSaws x = noon("40;p5");
        long[] ones = {1L << 8, 1L << 16, 1L << 32};
        for (int lane = 0; lane < 4; lane++) {
            x.sheet(0, lane, 3);
            due("item", x.item(0, lane, 1, 40), 1);
            due("dust", x.dust(0, 0, 0, lane, 1, 1, 0), 31);
            for (int k = 0; k < 3; k++) {
                x.item(0, lane, 1, 40 + ones[k]);
                due("dust: the lowest bits", x.dust(0, 0, 0, lane, 1, 1, 0), lane <= k ? 31 : 0);
            }
            x.item(0, lane, 1, 40 - 128);
            due("dust", x.dust(0, 0, 0, lane, 1, 1, 0), 0);
            due("item, the first", x.item(0, lane, 0, Long.MIN_VALUE), 1);
            due("item, the last", x.item(0, lane, 2, Long.MAX_VALUE), 1);
            for (int i : new int[] {-1, 3, LOW, HIGH}) due("INDEX", x.item(0, lane, i, 1), INDEX);
            for (int other = 0; other < 4; other++) {
                if (other != lane) due("CAST", x.item(0, other, 9, 1), CAST);
            }
        }
        due("NULL", x.item(1, 0, 9, 1), NULL);
        int[][] bad = {{4, 0}, {-1, 0}, {LOW, 0}, {HIGH, 0}, {0, 4}, {0, -1}, {0, LOW}, {0, HIGH}, {1, 4}};
        for (int[] b : bad) due("item(" + b[0] + ", " + b[1] + ")", x.item(b[0], b[1], 0, 1), BAD);
    }

    private static void copy() {
        NoonSaws x = noon("40;p5@0");
        x.sheet(0, 1, 8);
        x.sheet(1, 1, 6);
        x.sheet(2, 2, 8);
        x.film(0, 4, 0, 1, 0);
        due("copy(0, 0, 1, 2, 4)", x.copy(0, 0, 1, 2, 4), 4);
        due("dust", x.dust(0, 0, 1, 1, 2, 4, 1), 32);
        due("copy(0, 0, 0, 1, 7): as if all were taken ahead", x.copy(0, 0, 0, 1, 7), 7);
        due("dust", x.dust(0, 0, 0, 1, 1, 4, 1), 32);
        due("copy(0, 1, 0, 0, 7)", x.copy(0, 1, 0, 0, 7), 7);
        due("dust", x.dust(0, 0, 0, 1, 0, 4, 1), 32);
        due("copy(0, 8, 1, 6, 0)", x.copy(0, 8, 1, 6, 0), 0);
        int[][] index = {{0, 9, 1, 0, 0}, {0, 0, 1, 7, 0}, {0, 0, 1, 0, 7}, {0, 3, 1, 0, 6}, {0, -1, 1, 0, 1},
            {0, 0, 1, -1, 1}, {0, 0, 1, 0, -1}, {0, LOW, 1, 0, 1}, {0, 0, 1, HIGH, 1}, {0, 0, 1, 0, LOW},
            {0, 0, 1, 0, HIGH}, {0, HIGH, 1, HIGH, HIGH}};
        int[][] cast = {{0, 0, 2, 0, 1}, {2, -1, 1, 0, -1}};
        int[][] none = {{0, 0, 3, 0, 1}, {3, 0, 0, 0, 1}, {3, -1, 2, -1, -1}};
        int[][] bad = {{-1, 0, 0, 0, 0}, {4, 0, 0, 0, 0}, {0, 0, -1, 0, 0}, {0, 0, 4, 0, 0}, {3, 0, HIGH, 0, 0}, {LOW, 0, 0, 0, 0}};
        refused(x, index, INDEX);
        refused(x, cast, CAST);
        refused(x, none, NULL);
        refused(x, bad, BAD);
        due("dust: as it was refused", x.dust(0, 0, 0, 1, 0, 4, 1), 32);
        due("dust: as it was refused", x.dust(0, 0, 1, 1, 2, 4, 1), 32);
    }

    private static void refused(NoonSaws x, int[][] calls, int due) {
        for (int[] c : calls) due("copy" + java.util.Arrays.toString(c), x.copy(c[0], c[1], c[2], c[3], c[4]), due);
    }
}
