/** The boundary cases that the promises of the calls name, a test for each; what is due is reckoned by hand. */
public final class CallEdgesTest {
    private static int promise = 0;

    public static void main(String[] args) {
        newObject();
        plank();
        sawyer();
        of();
        at();
        type();
        read();
        count();
        hours();
        set();
        sharpen();
        soak();
        drift();
        undo();
        seed();
        left();
        ahead();
        then();
        falls();
        noon();
        best();
        most();
        sharp();
        without();
        thickest();
        hops();
        image();
        restore();
        dust();
        film();
        sheet();
        drop();
        item();
        copy();
        Check.due("promises", promise, 34);
        Script.end();
    }

    private static void next() {
        promise++;
    }

    private static void says(String sentence, String... lines) {
        Script.says("promise " + promise + ": " + sentence, lines);
    }

    private static void newObject() {
        next();
        says("No planks, nobody",
            "count 0 = 0", "count 1 = 0", "count 2 = 0", "count 3 = 0", "count 4 = 0", "count 5 = 0", "count 6 = 0", "count 7 = 0",
            "of 0 0 = BAD", "at 0 0 = BAD", "set 0 0 = BAD", "set 0 NONE = BAD", "sharpen 0 1 = BAD", "soak 0 1 = BAD", "left 0 0 = BAD",
            "ahead 0 0 0 = BAD", "falls 0 = BAD", "without 0 = BAD", "thickest 0 1 = BAD", "hops 0 0 0 = BAD", "then 60 = 0",
            "noon = 0", "undo = NONE", "restore = NONE", "read = -20", "seed 1 = 1");
        says("sheets hold nothing (at first)",
            "drop 0 = NULL", "drop 1 = NULL", "drop 2 = NULL", "drop 3 = NULL", "item 0 0 0 0 = NULL", "copy 0 0 0 0 0 = NULL");
    }

    private static void plank() {
        next();
        says("A PLANK: its number. BAD",
            "plank 0 5 = BAD", "plank 1 5 = 0", "plank 99 5 = 1", "plank 100 5 = BAD", "plank 5 -1 = BAD", "plank 5 0 = 2",
            "plank 5 9 = 3", "plank 5 10 = BAD", "plank LOW LOW = BAD", "plank HIGH HIGH = BAD", "count 0 = 4");
        says("FULL: 5",
            "4 * plank 9 0", "plank 9 0 = 4", "plank 9 0 = FULL", "plank 9 0 = FULL", "count 0 = 5", "tell 9 = 1", "plank 9 0 = 1");
        says("a PLANK that comes while others are sawn",
            "tell 5;p5@0 = 1", "hours 1 = 1", "at 0 2 = 0", "plank 7 3 = 1", "of 1 2 = 7", "of 1 3 = 0", "count 2 = 1", "count 3 = 1");
        says("a number is BAD behind an IMAGE with fewer, too",
            "image = 1", "5 * plank 9 0", "restore = 1", "of 0 0 = BAD", "plank 8 0 = 0", "of 1 0 = BAD");
    }

    private static void sawyer() {
        next();
        says("A SAWYER: his number. BAD",
            "sawyer -1 5 = BAD", "sawyer 0 5 = 0", "sawyer 4 5 = 1", "sawyer 5 5 = BAD", "sawyer 2 -1 = BAD", "sawyer 2 0 = 2",
            "sawyer 2 9 = 3", "sawyer 2 10 = BAD", "sawyer LOW LOW = BAD", "sawyer HIGH HIGH = BAD", "count 1 = 4");
        says("who SITS on none",
            "tell 9;p1@0 = 1", "sawyer 0 9 = 1", "at 1 2 = NONE", "count 6 = 2", "tell 9;p1@0,p1@0 = 1", "tell 9;p1@0 = 1", "sawyer 0 9 = 1",
            "at 1 2 = NONE");
        says("FULL: 5",
            "4 * sawyer 0 9", "sawyer 1 8 = 4", "sawyer 0 9 = FULL", "sawyer 0 9 = FULL", "count 1 = 5", "tell 9;p1 = 1", "sawyer 0 9 = 1");
    }

    private static void of() {
        next();
        says("0 THICK, 1 KNOTTY, 2 what is LEFT, 3 who SITS on it (a set), 4 how much all these would CUT. BAD",
            "tell 20%3-1,9;p5@0,p1,p4@0,p1@1,p0@0 = 2", "of 0 -1 = BAD", "of 0 0 = 20", "of 0 1 = 3", "of 0 2 = 19", "of 0 3 = 21",
            "of 0 4 = 7", "of 0 5 = BAD", "of 0 LOW = BAD", "of 0 HIGH = BAD");
        says("of a PLANK: the first, the last, none such",
            "tell 7,8;p1@1 = 2", "of -1 0 = BAD", "of 0 0 = 7", "of 1 0 = 8", "of 2 0 = BAD", "of NONE 3 = BAD", "of LOW 0 = BAD",
            "of HIGH 0 = BAD", "of 0 3 = 0", "of 0 4 = 0");
        says("would CUT: more than is LEFT, too; nothing of one that is FALLEN",
            "tell 9-8,9-9;p9@0,p9@0,p9@1 = 2", "of 0 4 = 18", "of 1 3 = 4", "of 1 4 = 0");
        says("in this HOUR",
            "tell 9;h9@0 = 1", "of 0 4 = 0", "hours 1 = 0", "of 0 4 = 9", "undo = 0", "of 0 4 = 0");
    }

    private static void at() {
        next();
        says("0 KIND, 1 TEETH, 2 on which PLANK he SITS (NONE), 3 how much he would CUT in this HOUR. BAD",
            "tell 9,9;o5@1,s7 = 2", "at 0 -1 = BAD", "at 0 0 = 1", "at 0 1 = 5", "at 0 2 = 1", "at 0 3 = 5", "at 0 4 = BAD", "at 0 LOW = BAD",
            "at 0 HIGH = BAD", "at 1 2 = NONE");
        says("of a SAWYER: the first, the last, none such",
            "tell 9;p5,p6 = 1", "at -1 1 = BAD", "at 0 1 = 5", "at 1 1 = 6", "at 2 1 = BAD", "at LOW 1 = BAD", "at HIGH 1 = BAD");
        says("(0: on none)",
            "tell 9%9;p9,o9,g9,h9,s9 = 1", "hours 1 = 0", "at 0 3 = 0", "at 1 3 = 0", "at 2 3 = 0", "at 3 3 = 0", "at 4 3 = 0", "count 5 = 45");
    }

    private static void type() {
        next();
        says("BAD: not 32 .. 126",
            "type 31 = BAD", "type 32 = 1", "type 126 = 2", "type 127 = BAD", "type 0 = BAD", "type -1 = BAD", "type LOW = BAD",
            "type HIGH = BAD", "type 288 = BAD", "type 65593 = BAD", "type 57 = 3");
        says("FULL: 80",
            "79 * type 32", "type 32 = 80", "type 32 = FULL", "type 57 = FULL", "read = -100", "type 32 = 1");
        says("FULL: 80: the one that is refused does not come",
            "79 * type 32", "type 57 = 80", "type 120 = FULL", "read = 1", "of 0 0 = 9");
        says("how many it has: all else may be done between",
            "type 57 = 1", "plank 5 0 = 0", "image = 1", "type 57 = 2", "restore = 1", "hours 1 = 0", "undo = 0", "type 32 = 3", "read = 1",
            "of 0 0 = 99");
    }

    private static void read() {
        next();
        says("THE TAPE, which is empty then",
            "type 57 = 1", "read = 1", "type 57 = 1", "type 120 = 2", "read = -21", "type 56 = 1", "read = 1", "of 0 0 = 8", "read = -20");
        says("how many PLANKS",
            "tell 9 = 1", "tell 9,9 = 2", "tell 9,9,9,9,9 = 5");
        says("A FAULT (all else stays)",
            "tell 40%5,22;p7@0,o4 = 2", "image = 1", "seed 9 = 1", "hours 2 = 0", "sheet 0 0 2 = 2", "item 0 0 1 3 = 1", "tell  = -20",
            "tell 5,5,5;g1@2,g2@1,g3@x = -39", "tell 5;s9@0,s9@1 = -30", "tell 99,99,99,99,99,99 = -34", "count 2 = 2", "count 7 = 2",
            "of 0 2 = 30", "seed 9 = 9");
        says("the longest noon",
            "tell 99%9-99,99%9-99,99%9-99,99%9-99,99%9-99;s9@4,s9@4,s9@4,s9@4,s9@4 = 5", "count 3 = 31", "count 5 = 45", "of 4 3 = 31");
    }

    private static void count() {
        next();
        says("0 PLANKS .. 7 what may be UNDONE. BAD",
            "tell 7,6-6;p5@0,p4 = 2", "hours 1 = 2", "count -1 = BAD", "count 0 = 2", "count 1 = 2", "count 2 = 1", "count 3 = 2",
            "count 4 = 2", "count 5 = 9", "count 6 = 2", "count 7 = 1", "count 8 = BAD", "count LOW = BAD", "count HIGH = BAD");
        says("the most that can be",
            "tell 99,99,99,99,99;p9,p9,p9,p9,p9 = 5", "hours 40 = 0", "count 0 = 5", "count 1 = 5", "count 2 = 40", "count 3 = 0",
            "count 4 = 495", "count 5 = 45", "count 6 = 31", "count 7 = 8");
        says("which are FALLEN: all of 5",
            "tell 9-9,9-9,9-9,9-9,9-9 = 5", "count 3 = 31", "count 4 = 0");
        says("the HOUR: the last one",
            "249 * hours 40", "hours 39 = 0", "count 2 = 9999");
    }

    private static void hours() {
        next();
        says("n HOURS (1 .. 40). BAD",
            "hours 0 = BAD", "hours -1 = BAD", "hours 41 = BAD", "hours LOW = BAD", "hours HIGH = BAD", "hours 1 = 0", "count 2 = 1",
            "hours 40 = 0", "count 2 = 41");
        says("each by itself may be UNDONE",
            "tell 50;p5@0 = 1", "hours 3 = 0", "count 7 = 3", "undo = 2", "of 0 2 = 40", "undo = 1", "of 0 2 = 45", "undo = 0", "of 0 2 = 50");
        says("which are FALLEN then (a set)",
            "tell 5-5,10,5,99%9;p5@1,p5@2 = 4", "hours 1 = 5", "hours 1 = 7", "count 3 = 7");
        says("FULL: the HOUR would be above 9999",
            "249 * hours 40", "hours 40 = FULL", "hours 39 = 0", "count 2 = 9999", "hours 1 = FULL", "hours 40 = FULL", "count 7 = 8",
            "undo = 7", "hours 2 = FULL", "hours 1 = 0", "hours 1 = FULL");
        says("FULL: not behind a noon told",
            "249 * hours 40", "hours 39 = 0", "hours 1 = FULL", "tell 9 = 1", "hours 40 = 0", "count 2 = 40");
    }

    private static void set() {
        next();
        says("SET on a PLANK, or on none (NONE): where he sat (NONE). BAD",
            "tell 9,9;p5,p5 = 2", "set -1 0 = BAD", "set 2 0 = BAD", "set LOW 0 = BAD", "set HIGH 0 = BAD", "set 0 -1 = BAD", "set 0 -2 = BAD",
            "set 0 -3 = BAD", "set 0 -5 = BAD", "set 0 2 = BAD", "set 0 LOW = BAD", "set 0 HIGH = BAD", "set 2 NONE = BAD", "set 0 0 = NONE",
            "set 1 1 = NONE", "set 0 1 = 0", "set 1 NONE = 1", "at 0 2 = 1", "at 1 2 = NONE", "count 7 = 4");
        says("NOT: it is so",
            "tell 9,9;p5,p5@1 = 2", "set 0 NONE = NOT", "set 1 1 = NOT", "count 7 = 0", "set 1 0 = 1", "set 1 0 = NOT", "count 7 = 1");
        says("on none: no PLANKS are needed",
            "sawyer 0 5 = 0", "set 0 0 = BAD", "set 0 NONE = NOT");
        says("on the last of 5, the last of 5",
            "tell 9,9,9,9,9;p5,p5,p5,p5,p5 = 5", "set 4 4 = NONE", "set 4 5 = BAD", "set 5 4 = BAD", "of 4 3 = 16");
    }

    private static void sharpen() {
        next();
        says("SHARPENED by n (1 .. 9): TEETH then. BAD",
            "tell 9;p0,p0 = 1", "sharpen 0 0 = BAD", "sharpen 0 10 = BAD", "sharpen 0 -1 = BAD", "sharpen 0 LOW = BAD",
            "sharpen 0 HIGH = BAD", "sharpen -1 1 = BAD", "sharpen 2 1 = BAD", "sharpen LOW 1 = BAD", "sharpen HIGH 1 = BAD",
            "sharpen 0 1 = 1", "sharpen 1 9 = 9", "at 0 1 = 1", "at 1 1 = 9", "count 7 = 2");
        says("NOT: he has 9",
            "tell 9;p8,p9 = 1", "sharpen 1 1 = NOT", "sharpen 1 9 = NOT", "sharpen 0 9 = 9", "sharpen 0 1 = NOT", "count 7 = 1", "undo = 0",
            "at 0 1 = 8");
    }

    private static void soak() {
        next();
        says("SOAKED by n (1 .. 99): what is LEFT then. BAD",
            "tell 9-8,9-8 = 2", "soak 0 0 = BAD", "soak 0 100 = BAD", "soak 0 -1 = BAD", "soak 0 LOW = BAD", "soak 0 HIGH = BAD",
            "soak -1 1 = BAD", "soak 2 1 = BAD", "soak LOW 1 = BAD", "soak HIGH 1 = BAD", "soak 0 1 = 2", "soak 1 99 = 99", "count 7 = 2");
        says("NOT: it is FALLEN",
            "tell 9-9,9-8;p1@1 = 2", "soak 0 1 = NOT", "soak 0 99 = NOT", "hours 1 = 3", "soak 1 1 = NOT", "count 7 = 1");
        says("NOT: 99 is LEFT",
            "tell 99,99-1,9 = 3", "soak 0 1 = NOT", "soak 0 99 = NOT", "soak 1 1 = 99", "soak 1 1 = NOT", "soak 2 89 = 98", "soak 2 9 = 99",
            "soak 2 1 = NOT", "of 2 0 = 9", "count 7 = 3");
    }

    private static void drift() {
        next();
        says("A DRIFT of n HOURS (1 .. 40). BAD",
            "drift 0 = BAD", "drift -1 = BAD", "drift 41 = BAD", "drift LOW = BAD", "drift HIGH = BAD", "seed 1 = 1", "drift 1 = 0",
            "count 2 = 1", "drift 40 = 0", "count 2 = 41", "count 7 = 8");
        // THE DRAW is 1103527590 and then 377401575: by 65536 of 2 each time the first; by 128 of 3 the last, then PLANK 1.
        says("each with who is SET one that may be UNDONE",
            "tell 9,9,9;p2,p2 = 3", "drift 2 = 0", "count 7 = 2", "at 0 2 = 1", "of 1 2 = 7", "of 2 2 = 7", "undo = 1", "at 0 2 = 2",
            "of 1 2 = 9", "seed 1103527590 = 1103527590", "undo = 0", "at 0 2 = NONE", "of 2 2 = 9", "count 2 = 0", "seed 1 = 1");
        says("which are FALLEN then (a set)",
            "tell 5-5,2,9;p2,p2 = 3", "drift 1 = 1", "tell 5-5,9,2;p2,p2 = 3", "seed 1 = 1103527590", "drift 1 = 5");
        says("FULL: likewise",
            "249 * drift 40", "drift 40 = FULL", "drift 39 = 0", "count 2 = 9999", "drift 1 = FULL", "hours 1 = FULL", "undo = 7", "drift 2 = FULL",
            "drift 1 = 0", "count 2 = 9999");
    }

    private static void undo() {
        next();
        says("UNDONE: how many more may be. NONE: none is known",
            "undo = NONE", "hours 2 = 0", "undo = 1", "undo = 0", "undo = NONE", "undo = NONE", "count 7 = 0", "count 2 = 0");
        says("what is refused, and what is only asked, is nothing to be UNDONE",
            "tell 9;p9@0 = 1", "set 0 0 = NOT", "sharpen 0 1 = NOT", "hours 0 = BAD", "hours 41 = BAD", "drift 0 = BAD", "noon = 1",
            "left 0 1 = 0", "seed 5 = 1", "undo = NONE", "seed 5 = 5");
        says("8 are known: by each sort of deed in turn",
            "tell 50,50;p5@0,p1 = 2", "soak 0 1 = 51", "set 1 1 = NONE", "hours 1 = 0", "sharpen 1 1 = 2", "soak 0 9 = 55",
            "drift 1 = 0", "set 1 NONE", "hours 1 = 0", "count 7 = 8", "sharpen 1 9 = 9", "count 7 = 8", "undo = 7", "7 * undo", "count 7 = 0",
            "count 2 = 0", "at 1 2 = NONE", "of 0 2 = 51", "undo = NONE");
    }

    private static void seed() {
        next();
        says("THE DRAW becomes v: what it was. BAD: below 0",
            "seed -1 = BAD", "seed LOW = BAD", "seed 0 = 1", "seed HIGH = 0", "seed 1 = 2147483647", "seed -1 = BAD", "seed 2 = 1", "count 7 = 0");
    }

    private static void left() {
        next();
        says("behind n HOURS. BAD",
            "tell 99%1,9;o0@0 = 2", "left -1 0 = BAD", "left 2 0 = BAD", "left LOW 0 = BAD", "left HIGH 0 = BAD", "left 0 -1 = BAD",
            "left 0 0 = 99", "left 1 0 = 9", "left 0 60 = 39", "left 1 60 = 9", "left 0 61 = BAD", "left 0 LOW = BAD", "left 0 HIGH = BAD");
        says("0, if it is FALLEN: not below",
            "tell 9;p9@0 = 1", "left 0 1 = 0", "left 0 2 = 0", "left 0 60 = 0");
    }

    private static void ahead() {
        next();
        says("0 TEETH, 1 on which PLANK he SITS (NONE). BAD",
            "tell 9;p9@0,p5 = 1", "ahead 0 0 -1 = BAD", "ahead 0 0 0 = 9", "ahead 0 0 1 = 0", "ahead 0 0 2 = BAD", "ahead 0 0 LOW = BAD",
            "ahead 0 0 HIGH = BAD", "ahead 1 60 0 = 5", "ahead 1 60 1 = NONE");
        says("Of a SAWYER behind n HOURS",
            "tell 9;p9@0,p5 = 1", "ahead -1 0 0 = BAD", "ahead 2 0 0 = BAD", "ahead LOW 0 0 = BAD", "ahead HIGH 0 0 = BAD", "ahead 0 -1 0 = BAD",
            "ahead 0 60 0 = 9", "ahead 0 61 0 = BAD", "ahead 0 LOW 0 = BAD", "ahead 0 HIGH 0 = BAD");
    }

    private static void then() {
        next();
        says("behind n HOURS (a set). BAD",
            "tell 9-9,60%1;o0@1 = 2", "then -1 = BAD", "then 0 = 1", "then 59 = 1", "then 60 = 3", "then 61 = BAD", "then LOW = BAD",
            "then HIGH = BAD");
        says("all of 5",
            "tell 1,1,1,1,1;p1@0,p1@1,p1@2,p1@3,p1@4 = 5", "then 0 = 0", "then 1 = 31");
    }

    private static void falls() {
        next();
        says("FALLS; NONE. BAD",
            "tell 60%1,9;o0@0 = 2", "falls -1 = BAD", "falls 0 = 60", "falls 1 = NONE", "falls 2 = BAD", "falls NONE = BAD", "falls LOW = BAD",
            "falls HIGH = BAD", "soak 0 1 = 61", "falls 0 = NONE");
    }

    private static void noon() {
        next();
        says("NOON; NONE",
            "noon = 0", "sawyer 0 9 = 0", "noon = 0", "plank 9 0 = 0", "noon = NONE", "set 0 0 = NONE", "noon = 1", "plank 9 0 = 1", "noon = 2",
            "hours 2 = 3", "noon = 0");
    }

    private static void best() {
        next();
        says("NOON (sawyer -1; NONE: not within 60 HOURS), how many (sawyer -2)",
            "tell 60%1;o0 = 1", "best -1 = 60", "best -2 = 1", "soak 0 1 = 61", "best -1 = NONE", "best -2 = 1", "best 0 = 0");
        says("BAD: no such one, below -2, too",
            "tell 9;p9,p9 = 1", "best -3 = BAD", "best NONE = BAD", "best LOW = BAD", "best HIGH = BAD", "best 1 = 0", "best 2 = BAD");
        says("NONE: there are no SAWYERS, PLANKS; BAD: no such one",
            "best -3 = BAD", "best 0 = BAD", "best -1 = NONE", "sawyer 0 1 = 0", "best 0 = NONE", "best 1 = BAD", "best -3 = BAD");
        says("asked again when one PLANK, one SAWYER more is there",
            "tell 9;p9 = 1", "best -1 = 1", "plank 9 0 = 1", "best -1 = 2", "sawyer 0 9 = 1", "best -1 = 1");
        says("asked again in another HOUR",
            "tell 9;h9 = 1", "best -1 = 2", "hours 1 = 0", "best -1 = 1", "undo = 0", "best -1 = 2");
        says("asked again of a NOON that is otherwise by how THICK, KNOTTY it is, by what is LEFT",
            "tell 12;g6 = 1", "best -1 = 1", "tell 13-1;g6 = 1", "best -1 = 2", "tell 9;p9 = 1", "best -1 = 1", "tell 9%9;p9 = 1", "best -1 = 2",
            "soak 0 2 = 11", "best -1 = 3");
        says("asked again of a NOON that is otherwise by KIND, TEETH, by who SITS where",
            "tell 9%9;p9 = 1", "best -1 = 2", "tell 9%9;g9 = 1", "best -1 = 1", "best -2 = 1", "set 0 0 = NONE", "best -2 = 0", "tell 9;p8 = 1",
            "best -1 = 2", "sharpen 0 1 = 9", "best -1 = 1");
        says("asked again when all is otherwise",
            "tell 9,5;p9@0,p5@1 = 2", "best -1 = 1", "best -2 = 0", "set 0 1 = 0", "best -2 = 1", "sharpen 1 4 = 9", "best -2 = 1", "best 0 = 0",
            "best 1 = 1", "undo = 1", "best -2 = 1", "soak 1 5 = 10", "best -1 = 2", "hours 1", "best -1 = 1", "undo = 2", "best -1 = 2");
    }

    private static void most() {
        next();
        says("how many are FALLEN (sawyer -1), how many SET otherwise (sawyer -2), the PLANK of a SAWYER; BAD likewise",
            "tell 9,9;p9@1,p9@1 = 2", "most 1 -3 = BAD", "most 1 NONE = BAD", "most 1 LOW = BAD", "most 1 HIGH = BAD", "most 1 2 = BAD",
            "most 1 -1 = 2", "most 1 -2 = 1", "most 1 0 = 0", "most 1 1 = 1");
        says("n HOURS (1 .. 30)",
            "tell 9;p9@0 = 1", "most 0 0 = BAD", "most -1 0 = BAD", "most 31 0 = BAD", "most LOW 0 = BAD", "most HIGH 0 = BAD", "most 1 0 = 0",
            "most 30 0 = 0", "most 30 -1 = 1");
        says("asked again for more HOURS, for fewer, of another",
            "tell 9;p5 = 1", "most 1 -1 = 0", "most 2 -1 = 1", "most 1 -1 = 0", "sharpen 0 4 = 9", "most 1 -1 = 1", "best -1 = 1", "most 1 -1 = 1");
        says("none FALLEN, all FALLEN",
            "tell 99,99,99,99,99;p1@4 = 5", "most 30 -1 = 0", "most 30 -2 = 0", "most 30 0 = 4", "tell 1,1,1,1,1;p1,p1,p1,p1,p1 = 5", "most 1 -1 = 5",
            "most 1 -2 = 5", "most 1 4 = 4");
        says("NONE: likewise",
            "most 1 -1 = NONE", "most 1 0 = BAD", "most 0 -1 = BAD", "most 31 -1 = BAD", "sawyer 0 1 = 0", "most 1 0 = NONE", "most 1 1 = BAD");
    }

    private static void sharp() {
        next();
        says("who (what 0), how much (1); BAD",
            "tell 9;p5,p5@0 = 1", "sharp 1 -1 = BAD", "sharp 1 0 = 1", "sharp 1 1 = 1", "sharp 1 2 = BAD", "sharp 1 LOW = BAD", "sharp 1 HIGH = BAD");
        says("n HOURS (1 .. 40)",
            "tell 9;p5,p5@0 = 1", "sharp 0 0 = BAD", "sharp -1 1 = BAD", "sharp 41 0 = BAD", "sharp 40 0 = 0", "sharp 40 1 = 0");
        says("NONE",
            "sharp 1 0 = NONE", "sharp 40 1 = NONE", "sharp 0 0 = BAD", "sharp 41 0 = BAD", "sharp 1 2 = BAD");
    }

    private static void without() {
        next();
        says("WITHOUT; NONE. BAD",
            "tell 9;p9@0,p3@0 = 1", "without -1 = BAD", "without 0 = 3", "without 1 = 1", "without 2 = BAD", "without NONE = BAD",
            "without LOW = BAD", "without HIGH = BAD", "set 1 NONE = 0", "without 0 = NONE", "without 1 = 1");
        says("no PLANKS",
            "sawyer 0 1 = 0", "without 0 = 0", "without 1 = BAD");
    }

    private static void thickest() {
        next();
        says("THICKEST. BAD",
            "tell 9,9;p5@1 = 2", "thickest -1 1 = BAD", "thickest 2 1 = BAD", "thickest LOW 1 = BAD", "thickest HIGH 1 = BAD",
            "thickest 1 0 = BAD", "thickest 1 41 = BAD", "thickest 1 -1 = BAD", "thickest 0 1 = 0", "thickest 1 1 = 5", "thickest 1 40 = 45");
    }

    private static void hops() {
        next();
        says("above (what 0), below (1). BAD",
            "tell 9,9;p9@0 = 2", "hops 0 3 -1 = BAD", "hops 0 3 0 = 7", "hops 0 3 1 = 10", "hops 0 3 2 = BAD", "hops 0 3 LOW = BAD",
            "hops 0 3 HIGH = BAD", "hops -1 3 0 = BAD", "hops 1 3 0 = 0", "hops 1 3 1 = 1", "hops 2 3 0 = BAD", "hops LOW 3 0 = BAD",
            "hops HIGH 3 0 = BAD", "hops 0 -1 0 = BAD", "hops 0 -1 1 = BAD", "hops 0 0 0 = 1", "hops 0 10 0 = 0", "hops 0 11 0 = BAD",
            "hops 0 11 1 = BAD");
    }

    private static void image() {
        next();
        says("All but SHEETS, THE TAPE is kept as an IMAGE: 1",
            "image = 1", "tell 9;p5@0 = 1", "hours 1 = 0", "restore = 1", "count 0 = 0", "count 1 = 0", "count 2 = 0", "image = 1", "restore = 1");
        says("in place of the one that was",
            "plank 9 0 = 0", "image = 1", "plank 8 0 = 1", "image = 1", "plank 7 0 = 2", "restore = 1", "count 0 = 2");
        says("SHEETS, THE TAPE stay",
            "sheet 0 0 3 = 3", "item 0 0 0 2 = 1", "type 57 = 1", "image = 1", "type 56 = 2", "item 0 0 0 3 = 1", "drop 1 = NULL", "sheet 1 1 1 = 1",
            "restore = 1", "type 32 = 3", "read = 1", "of 0 0 = 98", "drop 0 = 3", "drop 1 = 1");
    }

    private static void restore() {
        next();
        says("NONE: there is none",
            "restore = NONE", "plank 9 0 = 0", "hours 1 = 0", "restore = NONE", "count 2 = 1");
        says("All is as it was then: 1",
            "tell 20%2,9;p5@0,h4 = 2", "seed 9 = 1", "hours 9 = 3", "image = 1", "tell 5;g1 = 1", "4 * plank 1 1", "4 * sawyer 4 4",
            "seed 10 = 9", "drift 9", "restore = 1", "count 0 = 2", "count 1 = 2", "of 0 1 = 2", "at 1 0 = 3", "count 2 = 9", "count 7 = 8",
            "seed 9 = 9", "undo = 7", "count 2 = 8", "undo = 6", "count 2 = 7", "undo = 5", "count 2 = 6", "undo = 4", "count 2 = 5", "undo = 3",
            "count 2 = 4", "undo = 2", "count 2 = 3", "undo = 1", "count 2 = 2", "undo = 0", "count 2 = 1", "of 0 2 = 16", "undo = NONE");
        says("once more, and once more",
            "plank 9 0 = 0", "hours 1 = 0", "image = 1", "undo = 0", "restore = 1", "count 2 = 1", "undo = 0", "count 2 = 0", "restore = 1", "count 7 = 1",
            "count 2 = 1");
    }

    private static void dust() {
        next();
        says("KINDS (what 0), TEETH (1), PLANKS (2). BAD",
            "tell 4;p0@0 = 1", "sheet 0 0 3 = 3", "film 0 3 0 0 0 = 3", "dust 0 0 0 0 0 3 -1 = BAD", "dust 0 0 0 0 0 3 0 = 31",
            "dust 0 0 0 0 0 3 1 = 1", "dust 0 0 0 0 0 3 2 = 1", "dust 0 0 0 0 0 3 3 = BAD", "dust 0 0 0 0 0 3 LOW = BAD", "dust 0 0 0 0 0 3 HIGH = BAD");
        says("of a PLANK, of a SAWYER, a SHEET, a LANE. BAD",
            "tell 4;p0@0 = 1", "sheet 0 0 3 = 3", "dust -1 0 0 0 0 3 0 = BAD", "dust 1 0 0 0 0 3 0 = BAD", "dust 0 -1 0 0 0 3 0 = BAD",
            "dust 0 1 0 0 0 3 0 = BAD", "dust 0 0 -1 0 0 3 0 = BAD", "dust 0 0 4 0 0 3 0 = BAD", "dust 0 0 0 -1 0 3 0 = BAD",
            "dust 0 0 0 4 0 3 0 = BAD", "dust LOW 0 0 0 0 3 0 = BAD", "dust 0 HIGH 0 0 0 3 0 = BAD", "dust 0 0 HIGH 0 0 3 0 = BAD",
            "dust 0 0 0 LOW 0 3 0 = BAD");
        says("no PLANKS, no SAWYERS: BAD",
            "sheet 0 0 3 = 3", "dust 0 0 0 0 0 3 0 = BAD", "plank 9 0 = 0", "dust 0 0 0 0 0 3 0 = BAD", "sawyer 0 0 = 0", "dust 0 0 0 0 0 3 0 = 0");
        says("NULL; CAST",
            "tell 4;p0@0 = 1", "sheet 0 0 3 = 3", "sheet 3 3 3 = 3", "dust 0 0 1 0 0 3 0 = NULL", "dust 0 0 0 1 0 3 0 = CAST", "dust 0 0 0 3 0 3 0 = CAST",
            "dust 0 0 3 0 0 3 0 = CAST", "dust 0 0 3 2 0 3 0 = CAST", "dust 0 0 3 3 0 3 0 = 0");
        says("from item i on: INDEX",
            "tell 4;p0@0 = 1", "sheet 0 0 4 = 4", "film 0 4 0 0 0 = 4", "dust 0 0 0 0 -1 1 1 = INDEX", "dust 0 0 0 0 0 4 1 = 1", "dust 0 0 0 0 3 1 1 = 1",
            "dust 0 0 0 0 4 1 1 = INDEX", "dust 0 0 0 0 1 4 1 = INDEX", "dust 0 0 0 0 0 5 1 = INDEX", "dust 0 0 0 0 LOW 1 1 = INDEX",
            "dust 0 0 0 0 LOW 8 1 = INDEX", "dust 0 0 0 0 HIGH 1 1 = INDEX", "dust 0 0 0 0 HIGH 8 1 = INDEX", "dust 0 0 0 0 -8 8 1 = INDEX");
        says("a row of 0 items: INDEX",
            "tell 4;p0@0 = 1", "sheet 0 0 0 = 0", "dust 0 0 0 0 0 1 0 = INDEX");
    }

    private static void film() {
        next();
        says("behind 1, 2, .. n HOURS (1 .. 24). BAD",
            "tell 4;p1@0 = 1", "sheet 0 0 24 = 24", "film 0 0 0 0 0 = BAD", "film 0 25 0 0 0 = BAD", "film 0 -1 0 0 0 = BAD", "film 0 LOW 0 0 0 = BAD",
            "film 0 HIGH 0 0 0 = BAD", "film 0 1 0 0 0 = 1", "film 0 24 0 0 0 = 24", "dust 0 0 0 0 0 8 1 = 2");
        // 3 2 1 by 1 tooth, which is lost then.
        says("an item each, comes to a SHEET",
            "tell 4;p1@0 = 1", "sheet 0 2 5 = 5", "film 0 4 0 2 1 = 4", "hours 3 = 0", "sheet 1 2 1 = 1", "tell 3,2,1,9-9;p0 = 4", "dust 3 0 0 2 0 1 1 = 1023",
            "dust 0 0 0 2 1 1 1 = 1023", "dust 1 0 0 2 2 1 1 = 1023", "dust 2 0 0 2 3 2 1 = 1023");
        says("of a PLANK, a SHEET, a LANE. BAD",
            "tell 4 = 1", "sheet 0 0 3 = 3", "film -1 1 0 0 0 = BAD", "film 1 1 0 0 0 = BAD", "film LOW 1 0 0 0 = BAD", "film HIGH 1 0 0 0 = BAD",
            "film 0 1 -1 0 0 = BAD", "film 0 1 4 0 0 = BAD", "film 0 1 0 -1 0 = BAD", "film 0 1 0 4 0 = BAD", "film 0 1 HIGH 0 0 = BAD",
            "film 0 1 0 LOW 0 = BAD");
        says("NULL; CAST",
            "tell 4 = 1", "sheet 0 0 3 = 3", "sheet 3 3 3 = 3", "film 0 1 1 0 0 = NULL", "film 0 1 0 1 0 = CAST", "film 0 1 0 3 0 = CAST",
            "film 0 1 3 0 0 = CAST", "film 0 1 3 2 0 = CAST");
        says("likewise: INDEX, and nothing of it comes",
            "tell 4 = 1", "sheet 0 0 4 = 4", "film 0 1 0 0 -1 = INDEX", "film 0 1 0 0 4 = INDEX", "film 0 4 0 0 1 = INDEX", "film 0 5 0 0 0 = INDEX",
            "film 0 24 0 0 0 = INDEX", "film 0 1 0 0 LOW = INDEX", "film 0 24 0 0 LOW = INDEX", "film 0 1 0 0 HIGH = INDEX", "film 0 24 0 0 HIGH = INDEX",
            "film 0 1 0 0 3 = 1", "film 0 4 0 0 0 = 4");
        says("a row of 0 items: INDEX",
            "tell 4 = 1", "sheet 0 0 0 = 0", "film 0 1 0 0 0 = INDEX");
    }

    private static void sheet() {
        next();
        says("sheets 0 .. 3. BAD",
            "sheet -1 0 1 = BAD", "sheet 4 0 1 = BAD", "sheet LOW 0 1 = BAD", "sheet HIGH 0 1 = BAD", "sheet 0 0 1 = 1", "sheet 3 0 2 = 2", "drop 0 = 1",
            "drop 3 = 2", "drop 1 = NULL");
        says("a LANE: 0 .. 3. BAD",
            "sheet 0 -1 1 = BAD", "sheet 0 4 1 = BAD", "sheet 0 LOW 1 = BAD", "sheet 0 HIGH 1 = BAD", "sheet 0 0 1 = 1", "sheet 1 3 1 = 1");
        says("of 0 to 24 items. BAD: also n above 24; SIZE: n below 0",
            "sheet 0 0 25 = BAD", "sheet 0 0 HIGH = BAD", "sheet 0 0 -1 = SIZE", "sheet 0 0 LOW = SIZE", "drop 0 = NULL", "sheet 0 0 0 = 0",
            "item 0 0 0 1 = INDEX", "drop 0 = 0", "sheet 0 0 24 = 24", "item 0 0 23 1 = 1", "item 0 0 24 1 = INDEX", "sheet 0 0 -1 = SIZE",
            "sheet 0 0 25 = BAD", "drop 0 = 24");
        says("A SHEET holds a new row: of 0s, whatever it held",
            "tell 9-9;p0 = 1", "sheet 0 0 3 = 3", "item 0 0 0 4 = 1", "item 0 0 2 4 = 1", "sheet 0 0 3 = 3", "dust 0 0 0 0 0 3 0 = 31", "item 0 0 2 4 = 1",
            "sheet 0 3 2 = 2", "sheet 0 0 3 = 3", "dust 0 0 0 0 0 3 0 = 31", "item 0 0 1 4 = 1", "drop 0 = 3", "sheet 0 0 3 = 3", "dust 0 0 0 0 0 3 0 = 31");
    }

    private static void drop() {
        next();
        says("A SHEET holds nothing: how many items it had. BAD; NULL",
            "drop -1 = BAD", "drop 4 = BAD", "drop LOW = BAD", "drop HIGH = BAD", "drop 0 = NULL", "sheet 0 0 0 = 0", "drop 0 = 0", "drop 0 = NULL",
            "sheet 3 3 24 = 24", "drop 3 = 24", "drop 3 = NULL", "item 3 3 0 1 = NULL");
    }

    private static void item() {
        next();
        says("Item i of a SHEET, taken as a row of a LANE. BAD",
            "sheet 0 0 3 = 3", "item -1 0 0 1 = BAD", "item 4 0 0 1 = BAD", "item LOW 0 0 1 = BAD", "item HIGH 0 0 1 = BAD", "item 0 -1 0 1 = BAD",
            "item 0 4 0 1 = BAD", "item 0 LOW 0 1 = BAD", "item 0 HIGH 0 1 = BAD");
        says("NULL; CAST; INDEX",
            "sheet 0 0 3 = 3", "sheet 2 2 3 = 3", "item 1 0 0 1 = NULL", "item 0 1 0 1 = CAST", "item 0 2 0 1 = CAST", "item 0 3 0 1 = CAST",
            "item 2 1 0 1 = CAST", "item 2 3 0 1 = CAST", "item 0 0 -1 1 = INDEX", "item 0 0 0 1 = 1", "item 0 0 2 1 = 1", "item 0 0 3 1 = INDEX",
            "item 0 0 LOW 1 = INDEX", "item 0 0 HIGH 1 = INDEX");
        lowestBits(0, 8);
        lowestBits(1, 16);
        lowestBits(2, 32);
        says("becomes v: a long has all bits",
            "tell 4;p0 = 1", "sheet 0 3 1 = 1", "item 0 3 0 4 = 1", "dust 0 0 0 3 0 1 1 = 1023", "item 0 3 0 4294967300 = 1", "dust 0 0 0 3 0 1 1 = 0",
            "item 0 3 0 9223372036854775807 = 1", "dust 0 0 0 3 0 1 1 = 0", "item 0 3 0 -9223372036854775808 = 1", "dust 0 0 0 3 0 1 1 = 0");
    }

    /** Beyond its bits a number begins again; the highest of them is a sign, so that it is not what is LEFT. */
    private static void lowestBits(int lane, int bits) {
        long round = 1L << bits;
        String item = "item 0 " + lane + " 0 ", dust = "dust 0 0 0 " + lane + " 0 1 1 = ";
        says("becomes v, its lowest bits: " + bits,
            "tell 4;p0 = 1", "sheet 0 " + lane + " 1 = 1", item + "4 = 1", dust + "1023", item + (4 + round) + " = 1", dust + "1023",
            item + (4 - round) + " = 1", dust + "1023", item + (4 + round / 2) + " = 1", dust + "0", item + (3 + round) + " = 1", dust + "0",
            item + (Long.MIN_VALUE + 4) + " = 1", dust + "1023", item + Long.MAX_VALUE + " = 1", dust + "0");
    }

    private static void copy() {
        next();
        says("BAD; NULL (either); CAST: of unlike LANES",
            "sheet 0 0 3 = 3", "sheet 1 1 3 = 3", "copy -1 0 0 0 1 = BAD", "copy 4 0 0 0 1 = BAD", "copy 0 0 -1 0 1 = BAD", "copy 0 0 4 0 1 = BAD",
            "copy LOW 0 0 0 1 = BAD", "copy 0 0 HIGH 0 1 = BAD", "copy 2 0 4 0 1 = BAD", "copy 4 0 2 0 1 = BAD", "copy 2 0 0 0 1 = NULL",
            "copy 0 0 2 0 1 = NULL", "copy 2 0 2 0 0 = NULL", "copy 0 0 1 0 1 = CAST", "copy 1 0 0 0 1 = CAST", "copy 1 0 0 0 0 = CAST");
        says("INDEX: of the one",
            "sheet 0 0 3 = 3", "sheet 1 0 9 = 9", "copy 0 -1 1 0 1 = INDEX", "copy 0 0 1 0 4 = INDEX", "copy 0 1 1 0 3 = INDEX", "copy 0 3 1 0 1 = INDEX",
            "copy 0 4 1 0 0 = INDEX", "copy 0 3 1 0 0 = 0", "copy 0 0 1 0 3 = 3", "copy 0 2 1 0 1 = 1", "copy 0 HIGH 1 0 1 = INDEX",
            "copy 0 LOW 1 0 1 = INDEX", "copy 0 1 1 0 HIGH = INDEX", "copy 0 HIGH 1 0 HIGH = INDEX", "copy 0 -1 1 0 0 = INDEX");
        says("INDEX: of the other",
            "sheet 0 0 9 = 9", "sheet 1 0 3 = 3", "copy 0 0 1 -1 1 = INDEX", "copy 0 0 1 0 4 = INDEX", "copy 0 0 1 1 3 = INDEX", "copy 0 0 1 3 1 = INDEX",
            "copy 0 0 1 4 0 = INDEX", "copy 0 0 1 3 0 = 0", "copy 0 0 1 0 3 = 3", "copy 0 0 1 2 1 = 1", "copy 0 0 1 HIGH 1 = INDEX",
            "copy 0 0 1 LOW 1 = INDEX", "copy 0 0 1 1 HIGH = INDEX", "copy 0 0 1 -1 0 = INDEX");
        says("INDEX: n below 0, as the machine finds it",
            "sheet 0 0 3 = 3", "copy 0 0 0 0 -1 = INDEX", "copy 0 3 0 3 -1 = INDEX", "copy 0 0 0 0 LOW = INDEX", "copy 0 2 0 2 LOW = INDEX");
        says("a row of 0 items, and one of 24",
            "sheet 0 0 0 = 0", "sheet 1 0 24 = 24", "copy 0 0 1 0 0 = 0", "copy 0 0 1 24 0 = 0", "copy 0 0 1 0 1 = INDEX", "copy 1 0 1 0 24 = 24",
            "copy 1 0 1 0 25 = INDEX", "copy 1 23 1 0 1 = 1", "copy 1 0 1 23 1 = 1");
        // 1 2 3 4 become 1 1 2 3, then 1 2 3 3.
        says("(or the same), as if all were taken ahead",
            "tell 1,2,3,4;p0 = 4", "sheet 0 0 4 = 4", "item 0 0 0 1 = 1", "item 0 0 1 2 = 1", "item 0 0 2 3 = 1", "item 0 0 3 4 = 1", "copy 0 0 0 1 3 = 3",
            "dust 0 0 0 0 0 2 1 = 1023", "dust 1 0 0 0 2 1 1 = 1023", "dust 2 0 0 0 3 1 1 = 1023", "copy 0 1 0 0 3 = 3", "dust 0 0 0 0 0 1 1 = 1023",
            "dust 1 0 0 0 1 1 1 = 1023", "dust 2 0 0 0 2 2 1 = 1023", "copy 0 0 0 0 4 = 4", "dust 0 0 0 0 0 1 1 = 1023");
        says("n items come to another one from j on: no more of it becomes otherwise",
            "tell 1,2,3,4;p0 = 4", "sheet 0 3 4 = 4", "sheet 1 3 4 = 4", "film 0 4 0 3 0 = 4", "film 1 4 1 3 0 = 4", "copy 0 1 1 1 2 = 2",
            "dust 1 0 1 3 0 1 1 = 1023", "dust 0 0 1 3 1 2 1 = 1023", "dust 1 0 1 3 3 1 1 = 1023", "dust 0 0 0 3 0 4 1 = 1023");
    }
}
