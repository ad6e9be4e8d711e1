/** Section 1 and promises 1 to 4: letters, texts, the first fault. */
final class EdgesOfText {
    private static final int NONE = Edges.NONE, UNKNOWN = Edges.UNKNOWN, OUTSIDE = Edges.OUTSIDE, NOT = Edges.NOT, FULL = Edges.FULL;

    private EdgesOfText() {
    }

    // ---- section 1

    @Says(in = "1", value = "THE TOWN is told in a text (240 letters at most)")
    static void theLongestText(Edges e) {
        String clauses = "t1 0;" + Edges.stayers(8);
        e.taken(clauses + " ".repeat(240 - clauses.length()), 8);
        e.taken(" ".repeat(240 - clauses.length()) + clauses, 8);
        e.taken("t1 " + "0".repeat(5) + " ".repeat(231) + ";", 0);
    }

    @Says(in = "1", value = "(CORNERS 0 .. N less 1, N 1 .. 9;")
    static void fewestAndMostCorners(Edges e) {
        e.due("corners", e.taken("t1 0;", 0).told(0), 1);
        e.due("corners", e.taken("t9 0;", 0).told(0), 9);
        e.fault("t0 0;", 2, 1);
        e.fault("t10 0;", 2, 1);
    }

    @Says(in = "1", value = "odds by Q of a hundred, 0 .. 100;")
    static void leastAndGreatestOdds(Edges e) {
        e.due("odds", e.taken("t1 0;", 0).told(1), 0);
        e.due("odds", e.taken("t1 100;", 0).told(1), 100);
        e.fault("t1 101;", 2, 3);
        e.fault("t1 999999;", 2, 3);
    }

    @Says(in = "1", value = "first, once)")
    static void theTownFirstAndOnce(Edges e) {
        e.taken("t1 0;c0 1;", 1);
        e.fault("c0 1;t1 0;", 1, 0);
        e.fault("t1 0;c0 1;t1 0;", 3, 10);
    }

    @Says(in = "1", value = "'c' A R ';' (8 CARS at most")
    static void mostCars(Edges e) {
        FollowCab x = e.taken("t1 0;" + Edges.stayers(8), 8);
        e.due("cars", x.told(2), 8);
        e.fault("t1 0;" + Edges.stayers(9), 3, 45);
        e.taken("t1 0;", 0);
    }

    @Says(in = "1", value = "at CORNER A;")
    static void firstAndLastCornerOfACar(Edges e) {
        FollowCab x = e.taken("t3 0;c0 1;c2 1;", 2);
        e.due("the first corner", x.car(0, 0), 0);
        e.due("the last corner", x.car(1, 0), 2);
        e.fault("t3 0;c3 1;", 2, 6);
        e.due("corner 8 of 9", e.taken("t9 0;c8 1;", 1).car(0, 0), 8);
        e.fault("t9 0;c9 1;", 2, 6);
    }

    @Says(in = "1", value = "CORNERS as figures from the first on, each 1 more than the CORNER")
    static void figuresOfARound(Edges e) {
        FollowCab x = e.taken("t3 0;c1 31;", 1);
        e.due("round", x.car(0, 2), 31);
        x.step(1);
        e.due("the first figure is one more than the corner", x.car(0, 0), 2);
        x.step(1);
        e.due("the least figure is the first corner", x.car(0, 0), 0);
        e.fault("t3 0;c0 4;", 2, 8);
        e.fault("t3 0;c0 0;", 2, 8);
        e.taken("t9 0;c0 9;", 1);
    }

    @Says(in = "1", value = "1 to 6 of them)")
    static void shortestAndLongestRound(Edges e) {
        e.due("one figure", e.taken("t2 0;c0 2;", 1).car(0, 2), 2);
        e.due("six figures", e.taken("t9 0;c0 987654;", 1).car(0, 2), 987654);
        e.due("six like ones", e.taken("t9 0;c0 999999;", 1).car(0, 2), 999999);
        e.fault("t9 0;c0 9876543;", 2, 8);
        e.fault("t9 0;c0 ;", 1, 8);
    }

    @Says(in = "1", value = "'f' C D ';' (CAR C follows CAR D, unlike, told ahead;")
    static void carsThatAreToldAhead(Edges e) {
        FollowCab x = e.taken("t1 0;c0 1;c0 1;f0 1;c0 1;f2 0;f1 2;", 3);
        e.due("the last told so far may be followed", x.car(0, 1), 1);
        e.due("the last told so far may follow", x.car(2, 1), 0);
        e.due("told ahead, not in the order of cars", x.car(1, 1), 2);
        e.fault("t1 0;c0 1;c0 1;f2 0;c0 1;", 2, 16);
        e.fault("t1 0;c0 1;c0 1;f0 2;c0 1;", 2, 18);
        e.fault("t1 0;f0 1;", 2, 6);
        e.fault("t1 0;c0 1;f0 0;", 4, 13);
    }

    @Says(in = "1", value = "each C once).")
    static void eachFollowsOnce(Edges e) {
        FollowCab x = e.taken("t1 0;" + Edges.stayers(8) + "f1 0;f2 0;f3 0;f4 0;f5 0;f6 0;f7 0;f0 7;", 8);
        e.due("all may follow, one may be followed by all", x.told(6), 255);
        e.fault("t1 0;" + Edges.stayers(3) + "f1 0;f2 0;f1 2;", 4, 31);
    }

    @Says(in = "1", value = "NUMBERS have one to six figures;")
    static void figuresOfNumbers(Edges e) {
        FollowCab x = e.taken("t000009 000100;c000008 9;c0 1;f000001 000000;", 2);
        e.due("six figures of N", x.told(0), 9);
        e.due("six figures of Q", x.told(1), 100);
        e.due("six figures of A", x.car(0, 0), 8);
        e.due("six figures of C and D", x.car(1, 1), 0);
        e.fault("t0000009 0;", 2, 1);
        e.fault("t9 0000000;", 2, 3);
        e.fault("t9 0;c0000000 1;", 2, 6);
        e.fault("t9 0;c0 1;c0 1;f0000001 0;", 2, 16);
        e.fault("t9 0;c0 1;c0 1;f1 0000000;", 2, 18);
        e.fault("t9 ;", 1, 3);
    }

    @Says(in = "1", value = "a word is one letter;")
    static void wordsOfOneLetter(Edges e) {
        e.fault("tt1 0;", 1, 1);
        e.fault("t1 0;cc0 1;", 1, 6);
        e.fault("t1 0;c0 1;c0 1;ff0 1;", 1, 16);
        e.fault("T1 0;", 1, 0);
        e.fault("t1 0;C0 1;", 1, 5);
    }

    @Says(in = "1", value = "blanks (32) may stand anywhere but within NUMBERS;")
    static void whereBlanksMayStand(Edges e) {
        FollowCab x = e.taken("  t  2  30  ;  c  1  12  ;  c 0 1 ;  f  0  1  ;  ", 2);
        e.due("odds", x.told(1), 30);
        e.due("follows", x.car(0, 1), 1);
        e.taken("t2 30;c1 12;c0 1;f0 1;", 2);
        e.fault("t1 1 0;", 1, 5);
        e.fault("t2 0;c0 1 2;", 1, 10);
        for (int letter : new int[] {0, 9, 10, 13, 31, 33, 95, 160, 255}) {
            e.fault("t2" + (char) letter + "0;", 1, 2);
        }
    }

    @Says(in = "1", value = "two NUMBERS side by side need one.")
    static void blankBetweenNumbers(Edges e) {
        e.taken("t9 0;c0 1;", 1);
        e.fault("t90;", 2, 1);
        e.fault("t9 0;c01;", 1, 8);
        e.fault("t9 0;c0 1;c0 1;f01;", 1, 18);
    }

    @Says(in = "1", value = "FAULTS, at the first letter that has one")
    static void theFirstFaultIsTold(Edges e) {
        e.fault("t0 101;x", 2, 1);
        e.fault("t1 0;c1 0;", 2, 6);
        e.fault("t1 0;t0 0;", 3, 5);
        e.fault("t99999999", 2, 1);
        e.fault("t1 0;c0 1;c0 1;f0 1;f0 0;x", 4, 21);
        e.fault("t1 0;c0 1;f0 0x", 4, 13);
        e.fault("t1 0x;t1 0;", 1, 4);
    }

    @Says(in = "1", value = "(the end at the text's length)")
    static void theEndHasAPlace(Edges e) {
        e.fault("t", 1, 1);
        e.fault("t1", 1, 2);
        e.fault("t1 ", 1, 3);
        e.fault("t1 0", 1, 4);
        e.fault("t1 0;c0 1;c0 1;f0 1", 1, 19);
        e.fault("t1 0" + " ".repeat(236), 1, 240);
        e.fault(" ".repeat(239) + "t", 1, 240);
    }

    @Says(in = "1", value = "of these the least:")
    static void theLeastOfTheFaultsAtOneLetter(Edges e) {
        // 't' again, where no word can stand
        e.fault("t1 0;c t1 0;", 1, 7);
        // a ninth 'c', where no word can stand
        e.fault("t1 0;" + Edges.stayers(8) + "f c0 1;", 1, 47);
        // a D of seven figures like C
        e.fault("t1 0;c0 1;f0 0000000;", 2, 13);
        // a C of seven figures that follows one already
        e.fault("t1 0;c0 1;c0 1;f0 1;f0000000 1;", 2, 21);
    }

    @Says(in = "1", value = "1 it cannot stand there (a letter that is no word, another word first than 't').")
    static void whatCannotStand(Edges e) {
        e.fault(";", 1, 0);
        e.fault("1", 1, 0);
        e.fault("c0 1;", 1, 0);
        e.fault("  f0 1;", 1, 2);
        e.fault("" + (char) 0, 1, 0);
        e.fault("" + (char) 255, 1, 0);
        e.fault("t;", 1, 1);
        e.fault("t1;", 1, 2);
        e.fault("t1 c", 1, 3);
        e.fault("t1 0c0 1;", 1, 4);
        e.fault("t1 0 0;", 1, 5);
        e.fault("t1 0;;", 1, 5);
        e.fault("t1 0;0", 1, 5);
        e.fault("t1 0;x", 1, 5);
        e.fault("t-1 0;", 1, 1);
        e.fault("t1 +0;", 1, 3);
        e.fault("t1 0;c0 1/", 1, 9);
        e.fault("t1 0;c0 1:", 1, 9);
    }

    @Says(in = "1", value = "2 a NUMBER of seven figures or more, or out of its bounds; a CORNER, a CAR that there is not;")
    static void numbersThatThereAreNot(Edges e) {
        e.fault("t0000001 0;", 2, 1);
        e.fault("t 1234567 0;", 2, 2);
        e.fault("t4294967297 0;", 2, 1);
        e.fault("t" + "1".repeat(239), 2, 1);
        e.fault("t999999 0;", 2, 1);
        e.fault("t1 101;", 2, 3);
        e.fault("t2 0;c2 1;", 2, 6);
        e.fault("t2 0;c999999 1;", 2, 6);
        e.fault("t2 0;c0 1;f1 0;", 2, 11);
        e.fault("t2 0;c0 1;f0 1;", 2, 13);
        e.fault("t1 0;" + Edges.stayers(8) + "f8 0;", 2, 46);
        e.fault("t1 0;" + Edges.stayers(8) + "f0 8;", 2, 48);
        e.due("the last there is", e.taken("t1 0;" + Edges.stayers(8) + "f7 0;f0 7;", 8).told(6), 129);
    }

    @Says(in = "1", value = "an R with another figure, also 0 (at its first).")
    static void figuresThatThereAreNot(Edges e) {
        e.fault("t3 0;c0 4;", 2, 8);
        e.fault("t3 0;c0 1234;", 2, 8);
        e.fault("t3 0;c0 123334;", 2, 8);
        e.fault("t3 0;c0 10;", 2, 8);
        e.fault("t3 0;c0 101;", 2, 8);
        e.fault("t3 0;c0 01;", 2, 8);
        e.fault("t3 0;c0 000000;", 2, 8);
        e.fault("t3 0;c0  9;", 2, 9);
        e.taken("t3 0;c0 123321;", 1);
    }

    @Says(in = "1", value = "3 't' again, a ninth 'c' (at it).")
    static void oneTooMany(Edges e) {
        e.fault("t1 0;t", 3, 5);
        e.fault("t1 0;  t1 0;", 3, 7);
        e.fault("t1 0;" + Edges.stayers(8) + "t", 3, 45);
        e.fault("t1 0;" + Edges.stayers(8) + "c", 3, 45);
        e.fault("t1 0;" + Edges.stayers(8) + "f0 1; c9 9;", 3, 51);
    }

    @Says(in = "1", value = "4 D like C (at the D);")
    static void oneThatWouldFollowItself(Edges e) {
        e.fault("t1 0;c0 1;f0 0;", 4, 13);
        e.fault("t1 0;c0 1;f00 000000;", 4, 14);
        e.fault("t1 0;" + Edges.stayers(8) + "f7   7;", 4, 50);
    }

    @Says(in = "1", value = "C follows one already (at the C).")
    static void oneThatFollowsAlready(Edges e) {
        e.fault("t1 0;c0 1;c0 1;f0 1;f0 1;", 4, 21);
        e.fault("t1 0;c0 1;c0 1;f0 1;f0 0;", 4, 21);
        e.fault("t1 0;c0 1;c0 1;f0 1;f 00", 4, 22);
        e.fault("t1 0;c0 1;c0 1;f0 1;f0 9;", 4, 21);
        e.taken("t1 0;c0 1;c0 1;f0 1;f1 0;", 2);
    }

    @Says(in = "1", value = "An empty text (or one of blanks alone) has no FAULT: no TOWN.")
    static void theEmptyText(Edges e) {
        for (String text : new String[] {"", " ", " ".repeat(240)}) {
            FollowCab x = e.taken(text, 0);
            e.due("no corners", x.told(0), 0);
            e.due("no town to step in", x.step(1), NOT);
        }
        FollowCab y = e.town("t4 30;c3 1;c0 1;");
        e.due("an empty text where a town was", y.town(), 0);
        e.due("corners", y.told(0), 0);
        e.due("odds", y.told(1), 0);
        e.due("cars", y.told(2), 0);
        e.due("corners with a car", y.told(5), 0);
        e.due("step(1)", y.step(1), NOT);
        e.due("car(0, 0)", y.car(0, 0), UNKNOWN);
        e.due("cross(0, 1)", y.cross(0, 1), UNKNOWN);
    }

    // ---- promise 1

    @Says(in = "Promise 1", value = "No TOWN.")
    static void theNewObject(Edges e) {
        FollowCab x = new FollowCab();
        for (int what = 0; what <= 11; what++) {
            e.due("told(" + what + ")", x.told(what), 0);
        }
        e.due("fault()", x.fault(), NONE);
        e.due("car(0, 0)", x.car(0, 0), UNKNOWN);
        e.due("step(1)", x.step(1), NOT);
        e.due("drift(60)", x.drift(60), NOT);
        e.due("undo()", x.undo(), NOT);
        e.due("where(0, 0)", x.where(0, 0), UNKNOWN);
        e.due("whom(0)", x.whom(0), UNKNOWN);
        e.due("cross(0, 1)", x.cross(0, 1), UNKNOWN);
        e.due("goBack(0)", x.goBack(0), NOT);
        e.due("goBack(1)", x.goBack(1), NOT);
        e.due("meets(200)", x.meets(200), 0);
        e.due("asked(60)", x.asked(60), 1000000000);
        e.due("stop()", x.stop(), 0);
        e.due("rings(0)", x.rings(0), NONE);
        e.due("tear()", x.tear(), 0);
        e.due("judge()", x.judge(), NONE);
        e.due("seed(1)", x.seed(1), 0);
    }

    // ---- promise 2

    @Says(in = "Promise 2", value = "One letter (a number 0 .. 255)")
    static void theLeastAndGreatestLetter(Edges e) {
        FollowCab x = new FollowCab();
        e.due("feed(0)", x.feed(0), 1);
        e.due("feed(255)", x.feed(255), 2);
        e.due("feed(-1)", x.feed(-1), OUTSIDE);
        e.due("feed(256)", x.feed(256), OUTSIDE);
        e.due("feed(256 + 't')", x.feed(256 + 't'), OUTSIDE);
        e.due("feed(LOW)", x.feed(Edges.LOW), OUTSIDE);
        e.due("feed(HIGH)", x.feed(Edges.HIGH), OUTSIDE);
        e.due("letters", x.told(3), 2);
    }

    @Says(in = "Promise 2", value = "comes behind THE TEXT: how many it has.")
    static void lettersComeBehind(Edges e) {
        FollowCab x = new FollowCab();
        String text = "t7 12;";
        for (int i = 0; i < text.length(); i++) {
            e.due("feed", x.feed(text.charAt(i)), i + 1);
        }
        x.town();
        e.due("corners", x.told(0), 7);
        e.due("odds", x.told(1), 12);
        e.due("the first of the next text", x.feed('x'), 1);
    }

    @Says(in = "Promise 2", value = "FULL (240).")
    static void theLastLetter(Edges e) {
        FollowCab x = new FollowCab();
        Checks.feedAll(x, " ".repeat(239));
        e.due("the last", x.feed(' '), 240);
        e.due("one more", x.feed('x'), FULL);
        e.due("OUTSIDE ahead of FULL", x.feed(256), OUTSIDE);
        e.due("letters", x.told(3), 240);
        e.due("what was refused is not of the text", x.town(), 0);
        e.due("room again", x.feed('x'), 1);
    }

    @Says(in = "Promise 2", value = "comes behind THE TEXT")
    static void theLastLetterIsRead(Edges e) {
        FollowCab x = new FollowCab();
        Checks.feedAll(x, " ".repeat(239) + "x");
        e.due("town()", x.town(), -11);
        e.due("its place", x.fault(), 239);
    }

    // ---- promise 3

    @Says(in = "Promise 3", value = "THE TEXT (it is empty then, with a FAULT, too)")
    static void theTextIsEmptyThen(Edges e) {
        FollowCab x = new FollowCab();
        Checks.feedAll(x, "t9x");
        e.due("with a fault", x.town(), -11);
        e.due("letters", x.told(3), 0);
        Checks.feedAll(x, "t9 0;");
        e.due("nothing of the old text is left", x.town(), 0);
        e.due("letters", x.told(3), 0);
        e.due("the same is not told twice", x.town(), 0);
        e.due("no town", x.told(0), 0);
    }

    @Says(in = "Promise 3", value = "(no STEPS; nothing SEEN, no BOOK;")
    static void aTownBeginsAnew(Edges e) {
        FollowCab x = usedTown(e);
        Checks.feedAll(x, "t2 5;c1 2;");
        e.due("town()", x.town(), 1);
        e.due("steps", x.told(4), 0);
        e.due("seen", x.told(9), 0);
        e.due("book", x.told(10), 0);
        e.due("follows", x.car(0, 1), NONE);
        e.due("next", x.car(0, 3), 0);
        e.due("went", x.car(0, 4), 0);
        e.due("judge()", x.judge(), NONE);
        e.due("cars of the old town", x.car(1, 0), UNKNOWN);
        e.due("corners of the old town", x.cross(2, 1), UNKNOWN);
    }

    @Says(in = "Promise 3", value = "IMAGES, what could be undone are gone;")
    static void imagesAreGone(Edges e) {
        FollowCab x = usedTown(e);
        x.keep(1);
        x.step(1);
        Checks.feedAll(x, "t4 30;c0 12;c1 34;c2 1;f2 0;");
        e.due("the like town once more", x.town(), 3);
        e.due("undo()", x.undo(), NOT);
        e.due("to be undone", x.told(11), 0);
        e.due("goBack(0)", x.goBack(0), NOT);
        e.due("goBack(1)", x.goBack(1), NOT);
    }

    @Says(in = "Promise 3", value = "IMAGES, what could be undone are gone;")
    static void imagesAreGoneWithTheEmptyText(Edges e) {
        FollowCab x = usedTown(e);
        e.due("town()", x.town(), 0);
        e.due("undo()", x.undo(), NOT);
        e.due("goBack(0)", x.goBack(0), NOT);
        e.due("seen", x.told(9), 0);
        e.due("book", x.told(10), 0);
        e.due("steps", x.told(4), 0);
    }

    @Says(in = "Promise 3", value = "THE SEED stays)")
    static void theSeedStays(Edges e) {
        FollowCab x = usedTown(e);
        Checks.feedAll(x, "t2 5;");
        x.town();
        e.due("with another town", x.seed(78), 77);
        x.town();
        e.due("with no town", x.seed(79), 78);
        x.feed('x');
        x.town();
        e.due("with a fault", x.seed(0), 79);
    }

    @Says(in = "Promise 3", value = ": how many CARS;")
    static void howManyCars(Edges e) {
        e.taken("t1 0;", 0);
        e.taken("t1 0;c0 1;", 1);
        e.taken("t1 0;" + Edges.stayers(8), 8);
    }

    @Says(in = "Promise 3", value = "-10 less the number of its FAULT")
    static void numbersOfFaults(Edges e) {
        e.fault("x", 1, 0);
        e.fault("t0", 2, 1);
        e.fault("t1 0;t", 3, 5);
        e.fault("t1 0;c0 1;f0 0", 4, 13);
    }

    @Says(in = "Promise 3", value = "(all else is as it was).")
    static void allElseIsAsItWas(Edges e) {
        for (String text : new String[] {"x", "t9 100;c8 9;c7 8;f0 1;x", "t1 0;t", "t9 9;c0 1;f0 0;"}) {
            FollowCab x = usedTown(e);
            Checks.feedAll(x, text);
            e.due("it has a fault", x.town() <= -11 ? 1 : 0, 1);
            FollowCab same = usedTown(e);
            e.due("all behind '" + text + "'", Twins.firstUnlike(Twins.everything(x), Twins.everything(same)), NONE);
        }
    }

    // ---- promise 4

    @Says(in = "Promise 4", value = "The place (from 0 on) of the letter that has the FAULT")
    static void firstAndLastPlace(Edges e) {
        e.fault("x", 1, 0);
        e.fault(" ".repeat(239) + "x", 1, 239);
        e.fault(" ".repeat(239) + "t", 1, 240);
    }

    @Says(in = "Promise 4", value = "of the latest town(); NONE.")
    static void theLatestFault(Edges e) {
        FollowCab x = new FollowCab();
        e.due("of no town()", x.fault(), NONE);
        Checks.feedAll(x, "t1 x");
        e.due("fed, not told", x.fault(), NONE);
        x.town();
        e.due("the first", x.fault(), 3);
        Checks.feedAll(x, " x");
        e.due("the first still", x.fault(), 3);
        x.town();
        e.due("the second", x.fault(), 1);
        x.step(1);
        x.told(0);
        e.due("the second still", x.fault(), 1);
        x.town();
        e.due("an empty text has none", x.fault(), NONE);
        x.feed('x');
        x.town();
        Checks.feedAll(x, "t1 0;");
        x.town();
        e.due("a town has none", x.fault(), NONE);
    }

    /** Three cars, steps, what is seen, a book, an image 0, one step to be undone; the seed is 77. */
    private static FollowCab usedTown(Edges e) {
        FollowCab x = e.town("t4 30;c0 12;c1 34;c2 1;f2 0;");
        x.seed(77);
        x.step(3);
        x.see(2, 1, 1);
        x.write(0, 0);
        x.keep(0);
        x.step(1);
        return x;
    }
}
