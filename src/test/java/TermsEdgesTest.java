/** The boundary cases that the sentences of 'Terms' name, a test for each; what is due is reckoned by hand. */
public final class TermsEdgesTest {
    public static void main(String[] args) {
        answers();
        planks();
        sawyers();
        plainAndOld();
        green();
        hopperAndSmall();
        cutting();
        blunt();
        leaving();
        deeds();
        foretold();
        fallsAndNoon();
        best();
        most();
        sharpAndWithout();
        thickest();
        hops();
        dust();
        undone();
        forgotten();
        draw();
        drawn();
        textPlanks();
        textSawyers();
        textInPlace();
        textNumbers();
        textFaults();
        textBlanks();
        Script.end();
    }

    private static void says(String sentence, String... lines) {
        Script.says(sentence, lines);
    }

    // ---- the head of the terms

    private static void answers() {
        says("of several the first that a call names: BAD; FULL",
            "5 * plank 9 0", "5 * sawyer 0 0", "80 * type 32", "plank 0 0 = BAD", "plank 9 10 = BAD", "plank 9 9 = FULL",
            "sawyer 5 0 = BAD", "sawyer 0 10 = BAD", "sawyer 4 9 = FULL", "type 31 = BAD", "type 127 = BAD", "type 126 = FULL");
        says("of several the first that a call names: BAD; FULL of hours",
            "249 * hours 40", "hours 39 = 0", "hours 41 = BAD", "hours 0 = BAD", "hours 40 = FULL", "drift 41 = BAD",
            "drift 0 = BAD", "drift 40 = FULL");
        says("of several the first that a call names: BAD; NOT",
            "tell 9,9-9,99;p9 = 3", "sharpen 0 0 = BAD", "sharpen 0 10 = BAD", "sharpen 0 9 = NOT", "soak 1 0 = BAD",
            "soak 1 100 = BAD", "soak 1 99 = NOT", "soak 2 0 = BAD", "soak 2 100 = BAD", "soak 2 1 = NOT");
        says("NULL, CAST, INDEX, SIZE in this order: dust",
            "tell 9;p9 = 1", "sheet 1 1 3 = 3", "dust 0 0 0 0 9 9 0 = BAD", "dust 0 0 0 0 9 8 0 = NULL",
            "dust 0 0 1 0 9 8 0 = CAST", "dust 0 0 1 1 9 8 0 = INDEX");
        says("NULL, CAST, INDEX, SIZE in this order: film, item",
            "tell 9;p9 = 1", "sheet 1 1 3 = 3", "film 0 25 0 0 9 = BAD", "film 0 24 0 0 9 = NULL", "film 0 24 1 0 9 = CAST",
            "film 0 24 1 1 9 = INDEX", "item 0 4 9 0 = BAD", "item 0 3 9 0 = NULL", "item 1 3 9 0 = CAST",
            "item 1 1 9 0 = INDEX");
        says("NULL, CAST, INDEX, SIZE in this order: copy",
            "sheet 1 1 3 = 3", "sheet 2 2 3 = 3", "sheet 3 1 3 = 3", "copy 4 9 0 9 9 = BAD", "copy 0 9 4 9 9 = BAD",
            "copy 0 9 1 9 9 = NULL", "copy 1 9 0 9 9 = NULL", "copy 1 9 2 9 9 = CAST", "copy 1 9 3 9 9 = INDEX");
        says("NULL, CAST, INDEX, SIZE in this order: sheet, drop",
            "sheet 4 0 -1 = BAD", "sheet 0 4 -1 = BAD", "sheet 0 0 25 = BAD", "sheet 0 0 -1 = SIZE", "drop 4 = BAD",
            "drop 0 = NULL");
        says("Sets are bits",
            "tell 1-1,2,3-3,4,5-5;p1,p1@1,p1,p1@1,p1 = 5", "count 3 = 21", "count 6 = 21", "of 1 3 = 10", "then 0 = 21");
        // Half of 3 is 1, half of 5 is 2.
        says("What is divided is cut",
            "tell 50%3,50-1;p5@0,s5@1 = 2", "at 0 3 = 4", "at 1 3 = 2");
    }

    // ---- 1

    private static void planks() {
        says("PLANKS 0 .. 4, as they come",
            "count 0 = 0", "of 0 0 = BAD", "plank 5 0 = 0", "of 0 0 = 5", "of 1 0 = BAD", "plank 6 0 = 1", "plank 7 0 = 2",
            "plank 8 0 = 3", "of 4 0 = BAD", "plank 9 0 = 4", "of 4 0 = 9", "of 5 0 = BAD", "of -1 0 = BAD", "plank 9 0 = FULL",
            "count 0 = 5");
        says("THICK by 1 .. 99",
            "plank 0 0 = BAD", "plank 100 0 = BAD", "plank -1 0 = BAD", "plank LOW 0 = BAD", "plank HIGH 0 = BAD",
            "plank 1 0 = 0", "plank 99 0 = 1", "of 0 0 = 1", "of 1 0 = 99");
        says("KNOTTY by 0 .. 9",
            "plank 5 -1 = BAD", "plank 5 10 = BAD", "plank 5 LOW = BAD", "plank 5 HIGH = BAD", "plank 5 0 = 0",
            "plank 5 9 = 1", "of 0 1 = 0", "of 1 1 = 9");
        says("so much is LEFT of each (as THICK at first",
            "plank 1 0 = 0", "of 0 2 = 1", "plank 99 0 = 1", "of 1 2 = 99", "count 4 = 100");
        says("0: it is FALLEN",
            "tell 9-8,9-9 = 2", "of 0 2 = 1", "of 1 2 = 0", "count 3 = 2", "then 0 = 2", "falls 0 = NONE", "falls 1 = 0",
            "soak 1 1 = NOT", "soak 0 1 = 2");
    }

    private static void sawyers() {
        says("SAWYERS 0 .. 4, as they come",
            "count 1 = 0", "at 0 0 = BAD", "sawyer 4 5 = 0", "at 0 1 = 5", "at 1 1 = BAD", "sawyer 3 6 = 1", "sawyer 2 7 = 2",
            "sawyer 1 8 = 3", "at 4 1 = BAD", "sawyer 0 9 = 4", "at 4 1 = 9", "at 5 1 = BAD", "at -1 1 = BAD",
            "sawyer 0 9 = FULL", "count 1 = 5");
        says("are of a KIND",
            "sawyer -1 5 = BAD", "sawyer 5 5 = BAD", "sawyer LOW 5 = BAD", "sawyer HIGH 5 = BAD", "sawyer 0 5 = 0",
            "sawyer 4 5 = 1", "at 0 0 = 0", "at 1 0 = 4");
        says("have TEETH 0 .. 9",
            "sawyer 0 -1 = BAD", "sawyer 0 10 = BAD", "sawyer 0 LOW = BAD", "sawyer 0 HIGH = BAD", "sawyer 0 0 = 0",
            "sawyer 0 9 = 1", "at 0 1 = 0", "at 1 1 = 9", "count 5 = 9");
        says("SIT on a PLANK, or on none (at first)",
            "plank 5 0 = 0", "sawyer 0 5 = 0", "at 0 2 = NONE", "count 6 = 1", "of 0 3 = 0", "at 0 3 = 0", "set 0 0 = NONE",
            "at 0 2 = 0", "count 6 = 0", "of 0 3 = 1");
        says("It is HOUR 0 at first",
            "count 2 = 0", "hours 1 = 0", "count 2 = 1");
    }

    private static void plainAndOld() {
        says("nothing, if that is FALLEN",
            "tell 9-9,9%1-8;p9@0,o9@0,g9@0,h9@0,s9@0 = 2", "hours 0 = BAD", "at 0 3 = 0", "at 1 3 = 0", "at 2 3 = 0",
            "at 4 3 = 0", "of 0 4 = 0", "set 0 1 = 0", "at 0 3 = 9", "hours 1 = 3");
        says("nothing, if that is FALLEN: a hopper in an hour in which he would cut, too",
            "tell 9%9-9;h9@0 = 1", "hours 1 = 1", "at 0 3 = 0");
        says("PLAIN: TEETH, less half of how KNOTTY it is",
            "tell 50,50%1,50%2,50%8,50%9;p9@0,p9@1,p9@2,p9@3,p9@4 = 5", "at 0 3 = 9", "at 1 3 = 9", "at 2 3 = 8",
            "at 3 3 = 5", "at 4 3 = 5");
        says("PLAIN: (0 at least)",
            "tell 50%9;p0@0,p3@0,p4@0,p5@0 = 1", "at 0 3 = 0", "at 1 3 = 0", "at 2 3 = 0", "at 3 3 = 1", "hours 1 = 0",
            "of 0 2 = 49", "tell 50%8,9%8;p3@0,p4@0,p5@0,g3@1,s3@1 = 2", "at 0 3 = 0", "at 1 3 = 0", "at 2 3 = 1", "at 3 3 = 0", "at 4 3 = 0");
        says("OLD: as much more as it is KNOTTY, but 3 more at most",
            "tell 50,50%1,50%2,50%3,50%4;o5@0,o5@1,o5@2,o5@3,o5@4 = 5", "at 0 3 = 5", "at 1 3 = 6", "at 2 3 = 6",
            "at 3 3 = 7", "at 4 3 = 6");
        says("OLD: as PLAIN (0 at least); as much more",
            "tell 50%9,50;o0@0,o4@0,o5@0,o0@1 = 2", "at 0 3 = 3", "at 1 3 = 3", "at 2 3 = 4", "at 3 3 = 0");
    }

    private static void green() {
        says("GREEN: twice that, if as much is LEFT as it was THICK",
            "tell 30,30-1;g4@0,g4@1 = 2", "at 0 3 = 8", "at 1 3 = 4", "soak 1 1 = 30", "at 1 3 = 8", "soak 1 1 = 31",
            "at 1 3 = 4", "soak 0 69 = 99", "at 0 3 = 4");
        says("GREEN: or less than 10",
            "tell 30-20,30-21,30-29,9,10;g4@0,g4@1,g4@2,g4@3,g4@4 = 5", "at 0 3 = 4", "at 1 3 = 8", "at 2 3 = 8",
            "at 3 3 = 8", "at 4 3 = 8");
        says("GREEN: as PLAIN (0 at least); twice that",
            "tell 9%9,99%9;g4@0,g5@0,g4@1,g0@1,g9@1 = 2", "at 0 3 = 0", "at 1 3 = 2", "at 2 3 = 0", "at 3 3 = 0", "at 4 3 = 10");
    }

    private static void hopperAndSmall() {
        // As OLD, 3 by 2 TEETH; behind HOURS 2 and 5 he has less.
        says("HOPPER: but nothing in HOURS that are a multiple of 4 (0, too)",
            "tell 99%1;h2@0 = 1", "at 0 3 = 0", "hours 1 = 0", "at 0 3 = 3", "hours 1 = 0", "at 0 3 = 3", "hours 1 = 0",
            "at 0 3 = 2", "hours 1 = 0", "at 0 3 = 0", "hours 1 = 0", "at 0 3 = 2", "hours 1 = 0", "at 0 3 = 1",
            "hours 1 = 0", "at 0 3 = 1", "hours 1 = 0", "at 0 3 = 0", "hours 1 = 0", "at 0 3 = 1", "of 0 2 = 87");
        says("HOPPER: as OLD: 3 more at most, 0 at least",
            "tell 50%9,50;h0@0,h5@0,h0@1 = 2", "hours 1 = 0", "at 0 3 = 3", "at 1 3 = 4", "at 2 3 = 0");
        says("HOPPER: in HOUR 8, which leaves 2 over by 3, he CUTS nothing and keeps his TEETH",
            "tell 99;h9@0 = 1", "hours 8 = 0", "at 0 1 = 7", "of 0 2 = 51", "hours 1 = 0", "at 0 1 = 7", "of 0 2 = 51",
            "hours 3 = 0", "at 0 1 = 6", "of 0 2 = 30");
        says("SMALL: half of what GREEN does; but 1, if that would be 0, and GREEN does more than nothing",
            "tell 50-10;s0@0,s1@0,s2@0,s3@0,s4@0 = 1", "at 0 3 = 0", "at 1 3 = 1", "at 2 3 = 1", "at 3 3 = 1", "at 4 3 = 2");
        says("SMALL: half of what GREEN does, who does twice",
            "tell 50,50%9;s0@0,s1@0,s9@0,s4@1,s5@1 = 2", "at 0 3 = 0", "at 1 3 = 1", "at 2 3 = 9", "at 3 3 = 0", "at 4 3 = 1");
    }

    private static void cutting() {
        says("all CUT, by how all is ahead of it",
            "tell 12-1,30;p2@0,g4@0,g4@1,g4@1 = 2", "hours 1 = 0", "of 0 2 = 5", "of 1 2 = 14");
        says("of each PLANK as much less is LEFT (0 at least)",
            "tell 10,10,10;p9@0,p9@1,p1@1,p9@2,p2@2 = 3", "hours 1 = 6", "of 0 2 = 1", "of 1 2 = 0", "of 2 2 = 0",
            "count 4 = 1");
        says("It is the next HOUR",
            "plank 5 0 = 0", "hours 1 = 0", "count 2 = 1", "hours 40 = 0", "count 2 = 41");
    }

    private static void blunt() {
        says("in HOURS that leave 2 over by 3",
            "tell 99;p9@0 = 1", "hours 1 = 0", "at 0 1 = 9", "hours 1 = 0", "at 0 1 = 9", "hours 1 = 0", "at 0 1 = 8",
            "hours 1 = 0", "at 0 1 = 8", "hours 1 = 0", "at 0 1 = 8", "hours 1 = 0", "at 0 1 = 7", "count 5 = 7");
        says("who CUT more than nothing has 1 less TEETH",
            "tell 99%9;p4@0,p5@0,p5 = 1", "hours 3 = 0", "at 0 1 = 4", "at 1 1 = 4", "at 2 1 = 5");
        says("who CUT more than nothing: not of one that is FALLEN",
            "tell 9-9;p5@0 = 1", "hours 3 = 1", "at 0 1 = 5");
        says("who CUT more than nothing: also of one that others bring to fall in that HOUR",
            "tell 5,99;p5,p3 = 2", "hours 2 = 0", "set 0 0 = NONE", "set 1 0 = NONE", "hours 1 = 1", "at 0 1 = 4", "at 1 1 = 2");
        says("1 less TEETH (0 at least)",
            "tell 99%3;o1@0,o0@0 = 1", "hours 3 = 0", "at 0 1 = 0", "at 1 1 = 0", "of 0 2 = 81", "hours 3 = 0", "at 0 1 = 0",
            "at 1 1 = 0", "of 0 2 = 63");
    }

    private static void leaving() {
        says("goes to the PLANK of which most is LEFT: by then, not ahead of it",
            "tell 5,20,32,31,30;p5@0,p2@2 = 5", "hours 1 = 1", "at 0 2 = 3", "at 1 2 = 2");
        says("of like ones the first",
            "tell 5,20,30,30;p5@0,p9@0,p1 = 4", "hours 1 = 1", "at 0 2 = 2", "at 1 2 = 2", "at 2 2 = NONE");
        says("of like ones the first: the first of all, and the last",
            "tell 30,5,30;p5@1 = 3", "hours 1 = 2", "at 0 2 = 0", "tell 29,5,30;p5@1 = 3", "hours 1 = 2", "at 0 2 = 2");
        says("if one is not FALLEN",
            "tell 5,9-8,9-9;p5@0 = 3", "hours 1 = 5", "at 0 2 = 1", "of 1 2 = 1");
        says("(else he stays)",
            "tell 9-9,5;p5@1,p3@0 = 2", "hours 1 = 3", "at 0 2 = 1", "at 1 2 = 0", "plank 7 0 = 2", "hours 1 = 3",
            "at 0 2 = 2", "at 1 2 = 2", "of 2 2 = 7");
        says("Who SITS on one that is FALLEN by then: also if it was so ahead",
            "tell 9-9,8;p3@0 = 2", "at 0 2 = 0", "hours 1 = 1", "at 0 2 = 1", "of 1 2 = 8");
        says("Who SITS on one that is FALLEN by then: not if 1 is LEFT",
            "tell 6,9;p5@0 = 2", "hours 1 = 0", "at 0 2 = 0", "of 0 2 = 1");
        says("Who SITS on one that is FALLEN by then: who SITS on none stays",
            "tell 9-9,8;p3 = 2", "hours 1 = 1", "at 0 2 = NONE", "of 1 2 = 8");
    }

    private static void deeds() {
        says("SHARPENED: he has n more TEETH (9 at most)",
            "tell 9;p7,p7,p7,p0 = 1", "sharpen 0 1 = 8", "sharpen 1 2 = 9", "sharpen 2 3 = 9", "sharpen 3 9 = 9", "count 5 = 35");
        says("SOAKED: n more is LEFT (99 at most; THICK stays)",
            "tell 50,50,50,1 = 4", "soak 0 48 = 98", "soak 1 49 = 99", "soak 2 50 = 99", "soak 3 99 = 99", "of 0 0 = 50",
            "of 3 0 = 1", "count 4 = 395");
        says("SOAKED: of a PLANK that is not FALLEN",
            "tell 50-50,50-49 = 2", "soak 0 1 = NOT", "soak 1 1 = 2", "count 7 = 1");
        says("SET: a SAWYER SITS on another PLANK, or on none",
            "tell 50,9-9;p5@0 = 2", "set 0 0 = NOT", "set 0 1 = 0", "at 0 2 = 1", "set 0 NONE = 1", "set 0 NONE = NOT",
            "at 0 2 = NONE");
    }

    // ---- 2

    private static void foretold() {
        // OLD without TEETH takes 1 an HOUR of what is KNOTTY by 1.
        says("behind n HOURS (0 .. 60) what is LEFT of a PLANK",
            "tell 99%1;o0@0 = 1", "left 0 -1 = BAD", "left 0 0 = 99", "left 0 1 = 98", "left 0 60 = 39", "left 0 61 = BAD",
            "left 0 LOW = BAD", "left 0 HIGH = BAD");
        says("behind n HOURS (0 .. 60) TEETH; on which PLANK a SAWYER SITS",
            "tell 3,99;p9@0,p5 = 2", "ahead 0 -1 0 = BAD", "ahead 0 0 0 = 9", "ahead 0 0 1 = 0", "ahead 0 1 1 = 1",
            "ahead 0 2 0 = 9", "ahead 0 3 0 = 8", "ahead 0 60 0 = 4", "ahead 0 60 1 = 1", "ahead 0 61 0 = BAD",
            "ahead 0 61 1 = BAD", "ahead 1 60 0 = 5", "ahead 1 60 1 = NONE");
        says("behind n HOURS (0 .. 60) which are FALLEN (a set)",
            "tell 60%1,1%1,9-9;o0@0,o0@1 = 3", "then -1 = BAD", "then 0 = 4", "then 1 = 6", "then 60 = 7", "then 61 = BAD",
            "then LOW = BAD", "then HIGH = BAD");
        // HOUR 9999 leaves 3 over by 4, then come 10000, in which he hops, 10001, 10002, 10003, 10004.
        says("from now: also from the last HOUR, beyond which hours can't go",
            "249 * hours 40", "hours 39", "plank 9 1 = 0", "sawyer 3 0 = 0", "set 0 0 = NONE", "hours 1 = FULL", "left 0 1 = 8",
            "left 0 2 = 8", "left 0 5 = 5", "left 0 6 = 5", "falls 0 = 12", "noon = 12");
    }

    private static void fallsAndNoon() {
        says("FALLS of a PLANK: the first of 0 to 60 HOURS behind which it is FALLEN; none",
            "tell 59%1,60%1,9-9;o0@0,o0@1 = 3", "falls 0 = 59", "falls 1 = 60", "falls 2 = 0", "falls 3 = BAD", "falls -1 = BAD",
            "tell 1%1,99;o0@0 = 2", "falls 0 = 1", "falls 1 = NONE");
        says("FALLS of a PLANK: none",
            "tell 61%1;o0@0 = 1", "falls 0 = NONE", "hours 1 = 0", "falls 0 = 60", "hours 40 = 0", "hours 20 = 1", "falls 0 = 0");
        says("NOON: the first of 0 to 60 HOURS behind which all are FALLEN",
            "noon = 0", "tell 9-9 = 1", "noon = 0", "tell 9-8 = 1", "noon = NONE", "tell 1;p1@0 = 1", "noon = 1",
            "tell 60%1,59%1;o0@0,o0@1 = 2", "noon = 60");
        // In HOUR 1 nobody CUTS, but he goes elsewhere.
        says("NOON: also if there is an HOUR in which nothing is CUT",
            "tell 9-9,9;p9 = 2", "hours 1 = 1", "set 0 0 = NONE", "noon = 2", "falls 1 = 2", "tell 9;h9@0 = 1", "noon = 2", "falls 0 = 2");
        says("NOON: none",
            "tell 61%1,1%1;o0@0,o0@1 = 2", "noon = 31", "tell 61%1;o0@0 = 1", "noon = NONE", "hours 1 = 0", "noon = 60");
    }

    private static void best() {
        // Whoever SITS on the FALLEN one comes an HOUR late, and 61 are too many: he must be SET, though that is one more.
        says("BEST: NOON is first (none is later than any)",
            "tell 60%1,9-9;o0@1 = 2", "noon = NONE", "best -1 = 60", "best -2 = 1", "best 0 = 0", "soak 0 1 = 61", "best -1 = NONE",
            "best -2 = 0", "best 0 = 1");
        says("BEST: none: also if it would be but 1 or 2 HOURS later",
            "tell 61%1;o0 = 1", "best -1 = NONE", "soak 0 1 = 62", "best -1 = NONE", "soak 0 1 = 63", "best -1 = NONE", "best 0 = 0");
        // On the FALLEN one he comes an HOUR late; at the edge he takes 18 at once.
        says("BEST: NOON is first: as all would CUT at most",
            "tell 5-5,18;g9 = 2", "best -1 = 1", "best 0 = 1", "tell 5-5,12%2;h9 = 2", "hours 1 = 1", "best -1 = 2", "best 0 = 1",
            "tell 5-5,10%2;h9 = 2", "hours 1 = 1", "best -1 = 1", "best 0 = 1");
        says("BEST: NOON is first: 0, if all are FALLEN",
            "tell 9-9,9-9;p1@1,p1@0 = 2", "best -1 = 0", "best -2 = 0", "best 0 = 1", "best 1 = 0");
        says("BEST: of like ones so that fewest are SET otherwise than they SIT",
            "tell 9,9;p9@1,p9@0 = 2", "best -1 = 1", "best -2 = 0", "best 0 = 1", "best 1 = 0", "set 0 0 = 1", "best -2 = 1",
            "best 0 = 0", "best 1 = 1");
        says("BEST: who SITS on none is SET otherwise, whatever PLANK he is SET on",
            "tell 9-9,9-9;p1,p1@1 = 2", "best -2 = 1", "best 0 = 0", "best 1 = 1");
        says("BEST: of like ones the first (PLANK of SAWYER 0, 1, .. rising)",
            "tell 9,9,9;p9,p9,p9 = 3", "best -1 = 1", "best -2 = 3", "best 0 = 0", "best 1 = 1", "best 2 = 2");
        says("BEST: none: there are no SAWYERS, PLANKS",
            "best -1 = NONE", "best -2 = NONE", "plank 9 0 = 0", "best -1 = NONE", "best -2 = NONE", "sawyer 0 9 = 0",
            "best -1 = 1", "best -2 = 1", "best 0 = 0");
        says("BEST: none: there are no PLANKS",
            "sawyer 0 9 = 0", "best -1 = NONE", "best -2 = NONE", "best 0 = NONE");
        says("BEST: all of 5 SAWYERS on all of 5 PLANKS",
            "tell 9,8,7,6,5;p5,p6,p7,p8,p9 = 5", "best -1 = 1", "best -2 = 5", "best 0 = 4", "best 1 = 3", "best 2 = 2", "best 3 = 1",
            "best 4 = 0", "best 5 = BAD");
    }

    private static void most() {
        says("MOST for n HOURS (1 .. 30)",
            "tell 30%1,1%1;o0@0,o0@0 = 2", "most 0 -1 = BAD", "most 1 -1 = 1", "most 1 -2 = 1", "most 1 0 = 0", "most 1 1 = 1",
            "most 30 -1 = 2", "most 30 -2 = 0", "most 31 -1 = BAD", "most LOW -1 = BAD", "most HIGH -1 = BAD");
        says("MOST: FALLEN behind them: by the last of them, not behind it",
            "tell 30%1;o0@0 = 1", "most 29 -1 = 0", "most 30 -1 = 1");
        says("MOST: most PLANKS are FALLEN: also those that are so now",
            "tell 9-9,99;p1@1 = 2", "most 1 -1 = 1", "most 1 -2 = 0", "most 1 0 = 1");
        says("MOST: then fewest are SET otherwise, of like ones the first",
            "tell 9,9;p9@1,p8 = 2", "most 1 -1 = 1", "most 1 -2 = 1", "most 1 0 = 1", "most 1 1 = 0");
        says("MOST: none: there are no SAWYERS, PLANKS",
            "most 1 -1 = NONE", "most 30 -2 = NONE", "plank 9 0 = 0", "most 1 -1 = NONE", "sawyer 0 9 = 0", "most 1 -1 = 1",
            "most 1 0 = 0");
        says("MOST: none: there are no PLANKS",
            "sawyer 0 9 = 0", "most 1 -1 = NONE", "most 1 -2 = NONE", "most 1 0 = NONE");
    }

    private static void sharpAndWithout() {
        says("SHARP for n HOURS (1 .. 40)",
            "tell 99%1;o0@0 = 1", "sharp 0 0 = BAD", "sharp 1 0 = 0", "sharp 1 1 = 95", "sharp 40 0 = 0", "sharp 40 1 = 41",
            "sharp 41 0 = BAD", "sharp LOW 0 = BAD", "sharp HIGH 0 = BAD");
        // 7 becomes 9, not 10: so he gains less than the other one.
        says("SHARP: whom to SHARPEN by 3 (9 at most)",
            "tell 99;p7@0,p6@0 = 1", "sharp 1 0 = 1", "sharp 1 1 = 83", "at 1 1 = 6");
        says("SHARP: of like ones the first",
            "tell 99;p9@0,p3,p9@0 = 1", "sharp 1 0 = 0", "sharp 1 1 = 81", "tell 99;p3,p4@0,p4@0 = 1", "sharp 1 0 = 1",
            "sharp 1 1 = 88");
        says("SHARP: least is LEFT of all together",
            "tell 50,4;p9@0,p1@1 = 2", "sharp 1 0 = 1", "sharp 1 1 = 41", "sharp 40 1 = 0");
        says("SHARP: none: there are none",
            "sharp 1 0 = NONE", "sharp 40 1 = NONE", "plank 9 0 = 0", "sharp 1 0 = NONE", "sharp 1 1 = NONE", "sawyer 0 9 = 0",
            "sharp 1 0 = 0", "sharp 1 1 = 9");
        says("WITHOUT a SAWYER: NOON then; none",
            "tell 60%1;o0@0,o0@0,p9 = 1", "without 0 = 60", "without 1 = 60", "without 2 = 30", "soak 0 1 = 61", "without 0 = NONE",
            "without 1 = NONE", "without 2 = 31");
        says("WITHOUT a SAWYER: 0, if all are FALLEN",
            "tell 9-9;p9@0 = 1", "without 0 = 0");
        says("WITHOUT a SAWYER (he SITS on none, from now on)",
            "tell 1,1;p1@0,p1@1 = 2", "without 0 = 2", "without 1 = 2", "noon = 1", "at 0 2 = 0");
    }

    private static void thickest() {
        says("THICKEST for a PLANK, n HOURS (1 .. 40)",
            "tell 99%1;o0@0 = 1", "thickest 0 0 = BAD", "thickest 0 1 = 1", "thickest 0 40 = 40", "thickest 0 41 = BAD",
            "thickest 0 LOW = BAD", "thickest 0 HIGH = BAD");
        // 33 by an HOUR, three HOURS long, then TEETH are less.
        says("THICKEST: the greatest LEFT (0 .. 99)",
            "tell 9;p9@0,p9@0,p9@0,p6@0 = 1", "thickest 0 3 = 99", "thickest 0 4 = 99", "thickest 0 2 = 66",
            "tell 9;p9@0,p9@0,p9@0,p5@0 = 1", "thickest 0 3 = 96");
        says("THICKEST: 0, if none falls",
            "tell 9,9;p9@1 = 2", "thickest 0 1 = 0", "thickest 1 1 = 9", "of 0 2 = 9");
        says("THICKEST: of it now: also of one that is FALLEN",
            "tell 50-50;p5@0 = 1", "thickest 0 1 = 5", "thickest 0 3 = 15", "of 0 2 = 0");
        // Of 12, as it was THICK, GREEN takes all; of 11 and 10 but 6.
        says("THICKEST: a greater one may fall where a lesser does not",
            "tell 12,20;g6@0 = 2", "thickest 0 1 = 12", "soak 0 1 = 13", "thickest 0 1 = 12");
    }

    private static void hops() {
        says("HOPS by c of 10 (0 .. 10)",
            "tell 5;p5@0 = 1", "hops 0 -1 0 = BAD", "hops 0 -1 1 = BAD", "hops 0 11 0 = BAD", "hops 0 11 1 = BAD", "hops 0 LOW 0 = BAD",
            "hops 0 HIGH 0 = BAD", "hops 0 LOW 1 = BAD", "hops 0 HIGH 1 = BAD", "hops 0 0 0 = 1", "hops 0 0 1 = 1", "hops 0 1 0 = 9", "hops 0 1 1 = 10", "hops 0 9 0 = 1", "hops 0 9 1 = 10", "hops 0 10 0 = 0",
            "hops 0 10 1 = 1");
        says("HOPS: a PLANK is FALLEN behind it: by as much as is LEFT, not by 1 less",
            "tell 10,11;p5@0,p5@0,p5@1,p5@1 = 2", "hops 0 5 0 = 1", "hops 0 5 1 = 4", "hops 1 5 0 = 0", "hops 1 5 1 = 1");
        says("HOPS: a PLANK is FALLEN behind it: also one that is so now",
            "tell 9-9,9;p5@1 = 2", "hops 0 10 0 = 1", "hops 0 10 1 = 1", "hops 0 3 1 = 1", "hops 1 0 0 = 0", "hops 1 0 1 = 1");
        says("HOPS: each SAWYER who SITS: none, and five",
            "tell 1,1;p1@1,p1@1,p1@1,p1@1,p1@1 = 2", "hops 0 0 0 = 0", "hops 0 0 1 = 1", "hops 1 9 0 = 40951", "hops 1 9 1 = 100000",
            "hops 1 1 0 = 99999", "hops 1 1 1 = 100000", "hops 1 10 0 = 0", "hops 1 0 0 = 1", "hops 1 5 0 = 31", "hops 1 5 1 = 32");
        says("HOPS: a fraction in lowest terms",
            "tell 2;p1@0,p1@0 = 1", "hops 0 4 0 = 9", "hops 0 4 1 = 25", "hops 0 2 0 = 16", "hops 0 2 1 = 25", "hops 0 5 0 = 1",
            "hops 0 5 1 = 4");
        says("HOPS: in this HOUR",
            "tell 3%1;h2@0 = 1", "hops 0 0 0 = 0", "hops 0 0 1 = 1", "hours 1 = 0", "hops 0 0 0 = 1", "hops 0 3 0 = 7", "hops 0 3 1 = 10");
    }

    // ---- 3

    private static void dust() {
        says("DUST: behind each of the next n HOURS (1 .. 8)",
            "tell 4;p0@0 = 1", "sheet 0 0 9 = 9", "film 0 9 0 0 0 = 9", "dust 0 0 0 0 0 0 0 = BAD", "dust 0 0 0 0 0 1 1 = 1",
            "dust 0 0 0 0 0 8 1 = 1", "dust 0 0 0 0 0 9 1 = BAD", "dust 0 0 0 0 1 8 1 = 1", "dust 0 0 0 0 0 LOW 1 = BAD",
            "dust 0 0 0 0 0 HIGH 1 = BAD");
        says("DUST: each of them: the first and the last of 8 count",
            "tell 4;p0@0 = 1", "sheet 0 0 8 = 8", "film 0 8 0 0 0 = 8", "item 0 0 0 3 = 1", "dust 0 0 0 0 0 8 0 = 0",
            "dust 0 0 0 0 1 7 0 = 31", "item 0 0 0 4 = 1", "item 0 0 7 3 = 1", "dust 0 0 0 0 0 8 0 = 0", "dust 0 0 0 0 0 7 0 = 31");
        // Twice 4 by GREEN, half of that by SMALL; OLD 3 more than 4 less 1; a HOPPER nothing in HOUR 0.
        says("DUST: KINDS (a set) of a SAWYER by which it would be so",
            "tell 20%3;p5@0 = 1", "sheet 0 0 1 = 1", "item 0 0 0 16 = 1", "dust 0 0 0 0 0 1 0 = 17", "item 0 0 0 13 = 1",
            "dust 0 0 0 0 0 1 0 = 2", "item 0 0 0 12 = 1", "dust 0 0 0 0 0 1 0 = 4", "item 0 0 0 20 = 1", "dust 0 0 0 0 0 1 0 = 8",
            "item 0 0 0 19 = 1", "dust 0 0 0 0 0 1 0 = 0");
        says("DUST: TEETH (0 .. 9, a set) of him",
            "tell 9%1;p5@0 = 1", "sheet 0 0 1 = 1", "dust 0 0 0 0 0 1 1 = 512", "item 0 0 0 9 = 1", "dust 0 0 0 0 0 1 1 = 1",
            "item 0 0 0 10 = 1", "dust 0 0 0 0 0 1 1 = 0", "item 0 0 0 -1 = 1", "dust 0 0 0 0 0 1 1 = 0", "tell 8%1;p5@0 = 1",
            "item 0 0 0 0 = 1", "dust 0 0 0 0 0 1 1 = 768");
        says("DUST: on which PLANK he might SIT now (a set)",
            "tell 9,9,9,9,9;p5@0,p5 = 5", "sheet 0 0 1 = 1", "item 0 0 0 9 = 1", "dust 4 0 0 0 0 1 2 = 15", "dust 0 0 0 0 0 1 2 = 30",
            "item 0 0 0 4 = 1", "dust 4 0 0 0 0 1 2 = 16", "dust 0 0 0 0 0 1 2 = 1", "dust 0 1 0 0 0 1 2 = 30");
        says("DUST: of a PLANK that is FALLEN all would be so by 0",
            "tell 9-9;p5@0 = 1", "sheet 0 0 8 = 8", "dust 0 0 0 0 0 8 0 = 31", "dust 0 0 0 0 0 8 1 = 1023", "dust 0 0 0 0 0 8 2 = 1");
    }

    private static void undone() {
        says("the latest HOUR, SET, SHARPENED, SOAKED is as it had not been",
            "tell 20,20;p5@0,p4 = 2", "hours 1 = 0", "set 1 1 = NONE", "sharpen 1 2 = 6", "soak 0 5 = 20", "count 7 = 4", "undo = 3",
            "of 0 2 = 15", "at 1 1 = 6", "undo = 2", "at 1 1 = 4", "at 1 2 = 1", "undo = 1", "at 1 2 = NONE", "count 2 = 1",
            "undo = 0", "count 2 = 0", "of 0 2 = 20", "undo = NONE", "count 7 = 0");
        says("(8 are known, older ones lost): 7",
            "hours 7 = 0", "count 7 = 7", "undo = 6", "6 * undo", "count 2 = 0", "undo = NONE");
        says("(8 are known, older ones lost): 8",
            "hours 8 = 0", "count 7 = 8", "undo = 7", "7 * undo", "count 2 = 0", "undo = NONE");
        says("(8 are known, older ones lost): 9",
            "hours 9 = 0", "count 7 = 8", "undo = 7", "7 * undo", "count 2 = 1", "count 7 = 0", "undo = NONE");
        says("(8 are known, older ones lost): some undone, and others done in their place",
            "hours 8 = 0", "3 * undo", "count 7 = 5", "hours 5 = 0", "count 2 = 10", "count 7 = 8", "undo = 7", "7 * undo",
            "count 2 = 2", "undo = NONE");
        says("TEETH are as ahead of it: behind the HOUR in which they grow blunt",
            "tell 50;p5@0 = 1", "hours 3 = 0", "at 0 1 = 4", "undo = 2", "at 0 1 = 5", "of 0 2 = 40");
        says("who SITS where is as ahead of it: behind the HOUR in which he goes elsewhere",
            "tell 5,50;p5@0 = 2", "hours 1 = 1", "at 0 2 = 1", "undo = 0", "at 0 2 = 0", "count 3 = 0");
        says("THE DRAW is as ahead of it, whatever was told since",
            "seed 7 = 1", "hours 1 = 0", "seed 8 = 7", "drift 1 = 0", "seed 9", "undo = 1", "seed 8 = 8", "undo = 0", "seed 1 = 7");
    }

    private static void forgotten() {
        says("a NOON told leaves nothing to be UNDONE",
            "hours 2 = 0", "tell 9 = 1", "count 7 = 0", "undo = NONE", "count 2 = 0");
        says("a new PLANK leaves nothing to be UNDONE; one that is refused does not come",
            "hours 2 = 0", "plank 0 0 = BAD", "count 7 = 2", "plank 9 0 = 0", "count 7 = 0", "undo = NONE", "count 2 = 2",
            "4 * plank 9 0", "hours 2 = 0", "plank 9 0 = FULL", "count 7 = 2", "undo = 1");
        says("a new SAWYER leaves nothing to be UNDONE; one that is refused does not come",
            "hours 2 = 0", "sawyer 5 0 = BAD", "count 7 = 2", "sawyer 0 0 = 0", "count 7 = 0", "undo = NONE", "count 2 = 2",
            "4 * sawyer 0 0", "hours 2 = 0", "sawyer 0 0 = FULL", "count 7 = 2", "undo = 1");
        says("a NOON told: one with a FAULT is none",
            "hours 2 = 0", "tell 9; = -22", "count 7 = 2", "undo = 1");
    }

    private static void draw() {
        says("THE DRAW is a number of 31 bits (1 at first)",
            "seed 0 = 1", "seed HIGH = 0", "seed -1 = BAD", "seed LOW = BAD", "seed 1 = 2147483647");
        // 0 leads to 12345; the greatest to 12345 less 1103515245, of 31 bits; 1 to the sum of both.
        says("it becomes the lowest 31 bits of itself times 1103515245 and 12345 more",
            "seed 0 = 1", "drift 1 = 0", "seed HIGH = 12345", "drift 1 = 0", "seed 1 = 1043980748", "drift 1 = 0", "seed 1 = 1103527590");
        says("ahead of each HOUR of a DRIFT",
            "drift 2 = 0", "seed 1 = 377401575", "hours 2 = 0", "seed 1 = 1");
        says("if there are SAWYERS, PLANKS",
            "drift 1 = 0", "seed 1 = 1103527590", "plank 9 0 = 0", "drift 1 = 0", "seed 1 = 1103527590", "sawyer 0 1 = 0",
            "at 0 2 = NONE", "drift 1 = 0", "seed 1 = 1103527590", "at 0 2 = 0", "of 0 2 = 8");
        says("if there are PLANKS: SAWYERS alone are SET on none",
            "sawyer 0 1 = 0", "drift 1 = 0", "seed 1 = 1103527590", "at 0 2 = NONE");
    }

    private static void drawn() {
        // By 65536 it is 16838, by 128 8621309: left over by 5 are 3 and 4, by 4 2 and 1, by 3 2 and 2, by 2 0 and 1.
        says("the SAWYER that it is by 65536, left over by how many there are, on the PLANK that it is by 128, left over by how many",
            "tell 9,9,9,9,9;p0,p0,p0,p0,p0 = 5", "drift 1 = 0", "at 3 2 = 4", "count 6 = 23", "seed 1", "tell 9,9,9,9;p0,p0,p0 = 4",
            "drift 1 = 0", "at 2 2 = 1", "count 6 = 3", "seed 1", "tell 9,9,9;p0,p0 = 3", "drift 1 = 0", "at 0 2 = 2", "count 6 = 2");
        drawnAt(2 * 65536 - 1, 1, 3);
        drawnAt(2 * 65536, 2, 0);
        drawnAt(127, 0, 0);
        drawnAt(128, 0, 1);
        drawnAt(255, 0, 1);
        // By 65536 it is 32767, by 128 16777215.
        drawnAt(Integer.MAX_VALUE, 2, 3);
        drawnAt(0, 0, 0);
        says("is SET: also if he SITS there as it is, and on one that is FALLEN, from which he goes on",
            "tell 9-9;p5@0 = 1", "drift 1 = 1", "at 0 2 = 0", "count 7 = 1", "seed 1", "tell 9-9,9;p5 = 2", "seed 0", "drift 1 = 1",
            "at 0 2 = 1", "of 1 2 = 9");
    }

    /** Of 5 SAWYERS, 4 PLANKS: who is SET where when THE DRAW becomes this one. */
    private static void drawnAt(int draw, int sawyer, int plank) {
        says("What is divided is cut: THE DRAW becomes " + draw,
            "tell 9,9,9,9;p0,p0,p0,p0,p0 = 4", "seed " + seedFor(draw) + " = 1", "drift 1 = 0", "at " + sawyer + " 2 = " + plank,
            "count 6 = " + (31 - (1 << sawyer)), "seed 1 = " + draw);
    }

    /** The one number of 31 bits behind which THE DRAW becomes this one. */
    private static int seedFor(int draw) {
        int inverse = 1;
        for (int i = 0; i < 5; i++) inverse *= 2 - 1103515245 * inverse;
        return (draw - 12345) * inverse & Integer.MAX_VALUE;
    }

    private static void textPlanks() {
        says("A NOON is a TEXT: 1 to 5 PLANKS with , between",
            "tell  = -20", "tell ; = -20", "tell ;p1 = -20", "tell 9 = 1", "count 0 = 1", "tell 5,6,7,8,9 = 5", "of 4 0 = 9",
            "tell 5,6,7,8,9,1 = -29", "tell 5,6,7,8,9, = -29", "tell ,9 = -20", "tell 9, = -22", "tell 9,,9 = -22", "tell 9 9 = -22",
            "tell 9,;p1 = -22", "count 0 = 5");
        says("a number 1 .. 99 (THICK)",
            "tell 0 = -20", "tell 00 = -20", "tell 1 = 1", "of 0 0 = 1", "tell 01 = 1", "of 0 0 = 1", "tell 99 = 1", "of 0 0 = 99",
            "tell 100 = -22", "tell 9,0 = -22", "tell 9,00 = -22", "tell -1 = -20");
        says("then perhaps % and a digit (KNOTTY)",
            "tell 5 = 1", "of 0 1 = 0", "tell 5%0 = 1", "of 0 1 = 0", "tell 5%9 = 1", "of 0 1 = 9", "tell 5%10 = -23", "tell 5%00 = -23",
            "tell 5% = -22", "tell 5%% = -22", "tell 5%- = -22", "tell 5%1%1 = -23", "tell %1 = -20", "tell 5%: = -22", "tell 5%/ = -22");
        says("perhaps - and a number 0 to THICK (so much is cut)",
            "tell 5-0 = 1", "of 0 2 = 5", "tell 5-4 = 1", "of 0 2 = 1", "tell 5-5 = 1", "of 0 2 = 0", "of 0 0 = 5", "tell 5-6 = -22",
            "tell 5-05 = 1", "of 0 2 = 0", "tell 5-06 = -22", "tell 99-99 = 1", "of 0 2 = 0", "tell 98-99 = -23", "tell 5-00 = 1",
            "of 0 2 = 5", "tell 5- = -22", "tell 5-- = -22", "tell 5-1-1 = -23", "tell 5-1%1 = -23", "tell 5%1-1 = 1", "of 0 2 = 4");
    }

    private static void textSawyers() {
        says("then perhaps ; and 1 to 5 SAWYERS with , between",
            "tell 9 = 1", "count 1 = 0", "tell 9; = -22", "tell 9;p1 = 1", "count 1 = 1", "tell 9;p1,p2,p3,p4,p5 = 1", "at 4 1 = 5",
            "tell 9;p1,p2,p3,p4,p5,p6 = -36", "tell 9;p1,p2,p3,p4,p5, = -36", "tell 9;,p1 = -22", "tell 9;p1, = -25",
            "tell 9;p1,,p2 = -25", "tell 9;p1;p2 = -24", "tell 9;p1p2 = -24", "tell 9;; = -22", "count 1 = 5");
        says("p o g h s (PLAIN, OLD, GREEN, HOPPER, SMALL)",
            "tell 9;p1,o2,g3,h4,s5 = 1", "at 0 0 = 0", "at 1 0 = 1", "at 2 0 = 2", "at 3 0 = 3", "at 4 0 = 4", "tell 9;P1 = -22",
            "tell 9;q1 = -22", "tell 9;1 = -22", "tell 9;a1 = -22", "tell 9;~1 = -22");
        says("a digit (TEETH)",
            "tell 9;p0,p9 = 1", "at 0 1 = 0", "at 1 1 = 9", "tell 9;p10 = -24", "tell 9;p = -23", "tell 9;p- = -23", "tell 9;p@0 = -23",
            "tell 9;pp = -23");
        says("then perhaps @ and a digit of a PLANK there is (else none)",
            "tell 9,9,9,9,9;p1@0,p1@4,p1 = 5", "at 0 2 = 0", "at 1 2 = 4", "at 2 2 = NONE", "tell 9;p1@0 = 1", "tell 9;p1@1 = -25",
            "tell 9,9;p1@1 = 2", "tell 9,9;p1@2 = -27", "tell 9,9,9,9,9;p1@5 = -33", "tell 9,9,9,9,9;p1@9 = -33", "tell 9;p1@ = -25",
            "tell 9;p1@@ = -25", "tell 9;p1@- = -25", "tell 9;p1@00 = -26", "tell 9;p1@0@0 = -26", "tell 9-9;p1@0 = 1", "at 0 2 = 0");
    }

    private static void textInPlace() {
        says("in place of all; HOUR 0 (THE DRAW stays)",
            "5 * plank 50 9", "5 * sawyer 4 9", "seed 77 = 1", "hours 7 = 0", "tell 9;p1 = 1", "count 0 = 1", "count 1 = 1", "of 0 1 = 0",
            "at 0 0 = 0", "at 0 2 = NONE", "count 2 = 0", "count 7 = 0", "seed 77 = 77", "tell 9 = 1", "count 1 = 0", "at 0 0 = BAD");
        says("in place of all: not of the IMAGE, nor of SHEETS",
            "plank 50 9 = 0", "image = 1", "sheet 0 0 3 = 3", "tell 9 = 1", "drop 0 = 3", "restore = 1", "of 0 0 = 50");
    }

    private static void textNumbers() {
        says("Numbers have 1 or 2 digits (a third one can't stand there)",
            "tell 9 = 1", "tell 09 = 1", "tell 90 = 1", "tell 990 = -22", "tell 999 = -22", "tell 010 = -22", "tell 9,100 = -24",
            "tell 99-100 = -25", "tell 99-000 = -25", "tell 12-012 = -25", "tell 5-001 = -24");
        says("or of the number's first digit, if it is not as told",
            "tell 00,9 = -20", "tell 9,00 = -22", "tell 12-13 = -23", "tell 12- 13 = -24", "tell  0 = -21", "tell  00 = -21",
            "tell 000 = -20", "tell 5-100 = -22");
    }

    private static void textFaults() {
        says("FAULTS: -20 less the place of the first letter that can't stand there",
            "tell x = -20", "tell 9x = -21", "tell 99x = -22", "tell 9%1x = -23", "tell 9-1x = -23", "tell 9;p1x = -24",
            "tell 9;p1@0x = -26", "tell 9x,0 = -21", "tell 0x = -20", "tell 9;x;x = -22");
        says("(the end: how many there are)",
            "tell  = -20", "tell 9, = -22", "tell 9% = -22", "tell 9- = -22", "tell 9; = -22", "tell 9;p = -23", "tell 9;p1, = -25",
            "tell 9;p1@ = -25");
        says("(the end: how many there are): 80, and the blanks count",
            "80 * type 32", "read = -100", "79 * type 32", "type 44 = 80", "read = -99", "78 * type 32", "type 57 = 79", "type 44 = 80",
            "read = -100", "type 32 = 1");
        says("the place of the first letter: the last of 80, which is as told",
            "79 * type 32", "type 57 = 80", "type 57 = FULL", "read = 1", "of 0 0 = 9");
    }

    private static void textBlanks() {
        says("(behind blanks)",
            "tell   x = -22", "tell 9  x = -23", "tell 9 ;  x = -25", "tell 9 , 0 = -24", "tell 9 - 10 = -24", "tell 9;p1 @ 1 = -27");
        says("the end, behind blanks",
            "tell     = -23", "tell 9 ,  = -24", "tell 9;   = -24");
        says("blanks count for nothing, but end a number",
            "tell   9 % 3 - 4 , 8 ; s 5 @ 1 , p 6   = 2", "of 0 0 = 9", "of 0 1 = 3", "of 0 2 = 5", "of 1 0 = 8", "at 0 0 = 4", "at 0 1 = 5",
            "at 0 2 = 1", "at 1 1 = 6", "at 1 2 = NONE", "tell 1 2 = -22", "tell 12-1 2 = -25", "tell 12 - 12 = 1", "of 0 2 = 0",
            "tell 10 0 = -23");
    }
}
