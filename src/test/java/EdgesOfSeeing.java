/** The rest of section 3 and promises 23 to 31: what is seen, the book, draws, what is undone, images. */
final class EdgesOfSeeing {
    private static final int NONE = Edges.NONE, UNKNOWN = Edges.UNKNOWN, OUTSIDE = Edges.OUTSIDE, NOT = Edges.NOT, FULL = Edges.FULL;
    private static final int LOW = Edges.LOW, HIGH = Edges.HIGH;

    private EdgesOfSeeing() {
    }

    // ---- section 3: what is seen

    @Says(in = "3", value = "SEEN (6 at most):")
    static void sixAreSeen(Edges e) {
        FollowCab x = e.town("t3 0;c0 1;c1 2;c2 3;");
        for (int i = 1; i <= 5; i++) {
            x.see(0, i, 1);
        }
        e.due("five fit", x.whom(0), 0b010);
        e.due("the sixth", x.see(0, 6, 2), 6);
        e.due("the sixth counts", x.whom(0), 0);
        e.due("the seventh", x.see(1, 1, 0), FULL);
        e.due("the seventh does not count", x.whom(1), 0b101);
    }

    @Says(in = "3", value = "a CAR was at a CORNER behind n STEPS (1 .. 30) from when that is asked, by one that it follows from then on")
    static void seenBehindOneAndBehindThirty(Edges e) {
        // behind one step it is where the one it follows is now: 2 is at 2 now, 1 goes there
        String town = "t4 0;c0 1;c1 3;c2 4;";
        e.due("behind one", seen(e, town, 0, 1, 2).whom(0), 0b100);
        e.due("behind two", seen(e, town, 0, 2, 2).whom(0), 0b010);
        // behind thirty it is where 1 is behind 29: at its fourth figure
        String late = "t3 0;c0 1;c2 22212;";
        e.due("behind thirty", seen(e, late, 0, 30, 0).whom(0), 0b010);
        e.due("behind 29", seen(e, late, 0, 29, 0).whom(0), 0);
        FollowCab x = seen(e, town, 0, 1, 2);
        x.step(1);
        e.due("from when it is asked: 1 is there now", x.whom(0), 0b010);
        x.undo();
        e.due("undone", x.whom(0), 0b100);
    }

    @Says(in = "3", value = "WHOM: other CARS (a SET) by which all that is SEEN of a CAR is so")
    static void allThatIsSeenOfACar(Edges e) {
        FollowCab x = e.town("t2 0;" + Edges.stayers(7) + "c1 2;");
        e.due("nothing seen: all others, not itself", x.whom(0), 254);
        e.due("nothing seen: all others, not itself", x.whom(7), 127);
        x.see(0, 1, 1);
        e.due("by one", x.whom(0), 128);
        e.due("not of another car", x.whom(1), 253);
        x.see(0, 30, 0);
        e.due("by none is all so", x.whom(0), 0);
        e.due("one car has no others", e.town("t1 0;c0 1;").whom(0), 0);
    }

    @Says(in = "3", value = "(all the others go on as they do).")
    static void othersGoOnAsTheyDo(Edges e) {
        // by 1, which follows it, 0 goes to and fro; by 2 it comes to 1 and stays
        String town = "t3 0;c0 3;c1 3;c1 2;f1 0;";
        e.due("to and fro", seen(e, town, 0, 2, 0).whom(0), 0b010);
        e.due("to and fro, at last", seen(e, town, 0, 30, 0).whom(0), 0b010);
        e.due("stays", seen(e, town, 0, 30, 1).whom(0), 0b100);
        // whom it follows now is nothing to it, and changes nothing
        FollowCab x = e.town("t3 0;c0 1;c1 2;c2 3;f0 2;");
        x.see(0, 2, 1);
        e.due("not by the one it follows", x.whom(0), 0b010);
        e.due("it follows as it did", x.car(0, 1), 2);
    }

    @Says(in = "3", value = "LOOK: behind how many STEPS (1 .. 30) by where it is these are told apart best:")
    static void firstAndLastLook(Edges e) {
        e.due("behind one", e.town("t3 0;c0 1;c1 2;c2 3;").look(0), 1);
        // 1 is elsewhere each fifth step, 2 each sixth: but behind 30 (31) all three are apart
        e.due("behind thirty", e.town("t3 0;c0 1;c0 11121;c0 111131;c0 1;").look(0), 30);
        e.due("not behind 31", e.town("t3 0;c0 1;c0 11112;c0 111113;c0 1;").look(0), 6);
    }

    @Says(in = "3", value = "the greatest part that is alike is least; of like ones the least;")
    static void theGreatestPartIsLeast(Edges e) {
        // three and one behind one step, two and two behind two
        e.due("two and two", e.town("t3 0;c2 3;c0 1;c0 1;c0 2;c1 2;").look(0), 2);
        // two, one and one behind one and behind each
        e.due("the first of like ones", e.town("t3 0;c0 1;c0 1;c0 1;c1 2;c2 3;").look(0), 1);
        // those that no longer fit do not count: 3 and 4 are left, apart behind two alone
        FollowCab x = e.town("t4 0;c0 1;c0 1;c1 2;c2 3;c2 4;");
        e.due("all", x.look(0), 2);
        x.see(0, 1, 2);
        e.due("two are left", x.whom(0), 0b11000);
        e.due("two are left", x.look(0), 2);
    }

    @Says(in = "3", value = "NONE: none parts them.")
    static void noneParts(Edges e) {
        e.due("all alike", e.town("t2 0;c1 2;" + Edges.stayers(7)).look(0), NONE);
        FollowCab x = e.town("t3 0;c0 1;c1 2;c2 3;");
        x.see(0, 1, 1);
        e.due("one is left", x.look(0), NONE);
        x.see(0, 2, 2);
        e.due("none is left", x.look(0), NONE);
        e.due("one car", e.town("t1 0;c0 1;").look(0), NONE);
    }

    @Says(in = "3", value = "THE BOOK (15 at most) tells at which CORNERS CARS are: WRONG: the first that is otherwise now; NONE.")
    static void theFirstAndTheLastEntry(Edges e) {
        FollowCab x = e.town("t3 0;c0 12;c1 2;");
        e.due("an empty book", x.judge(), NONE);
        for (int i = 1; i <= 14; i++) {
            x.write(1, 1);
        }
        e.due("all is so", x.judge(), NONE);
        e.due("the last entry", x.write(0, 1), 15);
        e.due("the last is wrong", x.judge(), 14);
        e.due("one more", x.write(1, 0), FULL);
        x.step(2);
        e.due("so now", x.judge(), NONE);
        FollowCab y = e.town("t3 0;c0 1;c1 2;");
        y.write(0, 2);
        y.write(1, 2);
        e.due("the first of two", y.judge(), 0);
    }

    // ---- section 3: draws

    @Says(in = "3", value = "THE SEED (0 at first: each DRAW it becomes it times 1103515245 and 12345, left over by 2 to the 31;")
    static void theSeedGoesOn(Edges e) {
        FollowCab x = e.town("t1 0;c0 1;");
        x.drift(1);
        e.due("two draws from 0", x.seed(HIGH), 1406932606);
        x.drift(1);
        e.due("two draws from the greatest", x.seed(0), 288979989);
        x.drift(60);
        long seed = 0;
        for (int i = 0; i < 120; i++) {
            seed = (seed * 1103515245L + 12345L) % 2147483648L;
        }
        e.due("two draws for each of sixty", x.seed(0), seed);
    }

    @Says(in = "3", value = "the DRAW of n is it / 65536, left over by n)")
    static void whatIsDrawn(Edges e) {
        // from 0: 0, 21468, 9988, then 22117, 3498, 16927
        FollowCab eight = e.town("t1 100;" + Edges.stayers(8));
        eight.drift(1);
        e.due("9988 by 8", eight.car(0, 1), 4);
        e.due("0 by 8", eight.told(6), 1);
        eight.drift(1);
        e.due("22117 and 16927 by 8", eight.car(5, 1), 7);
        e.due("0 and 5", eight.told(6), 33);
        FollowCab three = e.town("t1 100;" + Edges.stayers(3));
        three.drift(1);
        e.due("9988 by 3", three.car(0, 1), 1);
    }

    @Says(in = "3", value = "the DRAW of n is it / 65536")
    static void whereTheDrawIsCut(Edges e) {
        // the seed, who is drawn first by what it becomes next, whom he follows
        int[][] rows = {
            {2032319262, 0, 2}, // 65535
            {1742513795, 1, 5}, // 65536
            {576240414, 6, 0}, // 65536 times 32767, less 1
            {286434947, 7, 3}, // 65536 times 32767
            {230538014, 7, 1}}; // the greatest
        for (int[] row : rows) {
            FollowCab x = e.town("t1 100;" + Edges.stayers(8));
            x.seed(row[0]);
            x.drift(1);
            e.due("who follows, from " + row[0], x.told(6), 1 << row[1]);
            e.due("whom, from " + row[0], x.car(row[1], 1), row[2]);
        }
    }

    @Says(in = "3", value = "n STEPS: ahead of each, if there are CARS, a DRAW of CARS, of 100;")
    static void aheadOfEach(Edges e) {
        FollowCab none = e.town("t1 100;");
        none.seed(9);
        e.due("no cars: steps", none.drift(60), 60);
        e.due("no cars: no draw", none.seed(0), 9);
        FollowCab x = e.town("t9 100;c0 1;c1 2;c2 3;c3 4;c4 5;");
        x.drift(1);
        e.due("0 follows 3 ahead of the step", x.car(0, 0), 3);
        FollowCab y = e.town("t1 100;" + Edges.stayers(8));
        y.drift(2);
        e.due("three draws ahead of each", y.seed(0), 1109335178);
    }

    @Says(in = "3", value = "below Q a DRAW of CARS:")
    static void belowTheOdds(Edges e) {
        // from 80 the second draw is 0, from 476 it is 99, from 0 it is 68; the first is 0, the third 1
        int[][] rows = {{80, 0, 0}, {80, 1, 1}, {476, 99, 0}, {476, 100, 1}};
        for (int[] row : rows) {
            FollowCab x = e.town("t1 " + row[1] + ";c0 1;c0 1;");
            x.seed(row[0]);
            x.drift(1);
            e.due("odds " + row[1] + " from " + row[0], x.told(6), row[2]);
        }
        FollowCab at = e.town("t1 68;" + Edges.stayers(5));
        at.drift(1);
        e.due("68 is not below 68", at.told(6), 0);
        e.due("no third draw", at.seed(0), 1406932606);
        FollowCab below = e.town("t1 69;" + Edges.stayers(5));
        below.drift(1);
        e.due("68 is below 69", below.told(6), 1);
        e.due("a third draw", below.seed(0), 654583775);
    }

    @Says(in = "3", value = "the first FOLLOWS that one, if they are unlike; else nothing.")
    static void oneDrawnTwice(Edges e) {
        // from 0 with two cars: 0, then 0 again
        FollowCab x = e.town("t2 100;c0 1;c1 2;f0 1;");
        x.drift(1);
        e.due("it follows as it did", x.car(0, 1), 1);
        e.due("three draws", x.seed(0), 654583775);
        FollowCab y = e.town("t2 100;c0 1;c1 2;");
        y.drift(1);
        e.due("nobody", y.told(6), 0);
        FollowCab one = e.town("t2 100;c0 21;");
        e.due("one car alone", one.drift(60), 60);
        e.due("it follows nobody", one.car(0, 1), NONE);
    }

    // ---- section 3: what is undone, images

    @Says(in = "3", value = "UNDONE: the latest of step(), follow(), letOff(), turn(), drift() that was not refused")
    static void whatCanBeUndone(Edges e) {
        FollowCab x = e.town("t2 0;c0 1;c1 2;c0 1;f0 1;");
        x.step(1);
        x.follow(1, 2);
        x.letOff(0);
        x.turn(2);
        x.drift(1);
        e.due("five", x.told(11), 5);
        x.step(0);
        x.step(61);
        x.follow(0, 0);
        x.follow(0, 3);
        x.letOff(0);
        x.letOff(3);
        x.turn(3);
        x.drift(0);
        x.drift(61);
        e.due("not what is refused", x.told(11), 5);
        x.feed('t');
        x.seed(3);
        x.see(0, 1, 1);
        x.write(0, 1);
        x.tear();
        x.where(0, 9);
        x.whom(0);
        e.due("nor what is not named", x.told(11), 5);
    }

    @Says(in = "3", value = "(20 at most are kept, the oldest are lost)")
    static void twentyAreKept(Edges e) {
        FollowCab x = e.town("t2 0;c0 21;");
        for (int i = 1; i <= 20; i++) {
            x.step(1);
        }
        e.due("twenty", x.told(11), 20);
        for (int i = 19; i >= 0; i--) {
            e.due("undo()", x.undo(), i);
            e.due("steps", x.told(4), i);
        }
        for (int i = 1; i <= 21; i++) {
            x.step(1);
        }
        e.due("twenty of 21", x.told(11), 20);
        for (int i = 19; i >= 0; i--) {
            e.due("undo()", x.undo(), i);
            e.due("steps", x.told(4), i + 1);
        }
        e.due("the oldest is lost", x.undo(), NOT);
        e.due("steps", x.told(4), 1);
    }

    @Says(in = "3", value = "(20 at most are kept, the oldest are lost)")
    static void undoneAndDoneAgain(Edges e) {
        FollowCab x = e.town("t2 0;c0 21;");
        for (int i = 1; i <= 25; i++) {
            x.step(1);
        }
        for (int i = 1; i <= 5; i++) {
            x.undo();
        }
        e.due("fifteen are left", x.told(11), 15);
        for (int i = 1; i <= 7; i++) {
            x.step(10);
        }
        e.due("twenty again", x.told(11), 20);
        for (int i = 6; i >= 0; i--) {
            x.undo();
            e.due("the later ones", x.told(4), 20 + 10 * i);
        }
        for (int i = 19; i >= 7; i--) {
            x.undo();
            e.due("the earlier ones", x.told(4), i);
        }
        e.due("two more are lost", x.undo(), NOT);
    }

    @Says(in = "3", value = "all of section 2 is as ahead of it; THE SEED stays.")
    static void theSeedStaysUndone(Edges e) {
        FollowCab x = e.town("t9 100;c0 1;c1 2;c2 3;c3 4;c4 5;");
        x.see(0, 1, 1);
        x.write(0, 0);
        x.drift(1);
        x.undo();
        e.due("corner", x.car(0, 0), 0);
        e.due("follows", x.car(0, 1), NONE);
        e.due("next", x.car(1, 3), 0);
        e.due("went", x.car(0, 4), 0);
        e.due("steps", x.told(4), 0);
        e.due("what is seen stays", x.told(9), 1);
        e.due("the book stays", x.told(10), 1);
        e.due("the seed stays", x.seed(0), 654583775);
    }

    @Says(in = "3", value = "IMAGES 0, 1 keep all of section 2, THE SEED.")
    static void whatImagesKeep(Edges e) {
        FollowCab x = e.town("t9 100;c0 1;c1 23;c2 3;c3 4;c4 5;");
        x.drift(1);
        x.turn(1);
        x.keep(1);
        x.see(0, 1, 1);
        x.write(0, 0);
        x.feed('t');
        x.letOff(0);
        x.turn(1);
        x.drift(30);
        x.goBack(1);
        e.due("corner", x.car(0, 0), 3);
        e.due("follows", x.car(0, 1), 3);
        e.due("round", x.car(1, 2), 32);
        e.due("next", x.car(1, 3), 0);
        e.due("went", x.car(0, 4), 1);
        e.due("steps", x.told(4), 1);
        e.due("not what is seen", x.told(9), 1);
        e.due("not the book", x.told(10), 1);
        e.due("not the text", x.told(3), 1);
        e.due("the seed", x.seed(0), 654583775);
    }

    // ---- promises 23 to 31

    @Says(in = "Promise 23", value = "SEEN: how much. UNKNOWN, OUTSIDE, FULL (6).")
    static void seeRefused(Edges e) {
        FollowCab x = e.town("t3 0;c0 1;c1 2;");
        for (int c : new int[] {-1, 2, LOW, HIGH}) {
            e.due("see(" + c + ", 1, 0)", x.see(c, 1, 0), UNKNOWN);
            e.due("see(" + c + ", 0, 0): UNKNOWN first", x.see(c, 0, 0), UNKNOWN);
        }
        for (int j : new int[] {-1, 3, 9, LOW, HIGH}) {
            e.due("see(0, 1, " + j + ")", x.see(0, 1, j), UNKNOWN);
            e.due("see(0, 31, " + j + "): UNKNOWN first", x.see(0, 31, j), UNKNOWN);
        }
        for (int n : new int[] {0, -1, 31, LOW, HIGH}) {
            e.due("see(0, " + n + ", 0)", x.see(0, n, 0), OUTSIDE);
        }
        e.due("nothing is seen of it", x.told(9), 0);
        e.due("the last car, the last step, the last corner", x.see(1, 30, 2), 1);
        for (int i = 2; i <= 6; i++) {
            e.due("the same again is seen again", x.see(0, 1, 0), i);
        }
        e.due("the seventh", x.see(0, 1, 0), FULL);
        e.due("the seventh, OUTSIDE first", x.see(0, 31, 0), OUTSIDE);
        e.due("the seventh, UNKNOWN first", x.see(2, 1, 0), UNKNOWN);
        e.due("the seventh, UNKNOWN first", x.see(0, 1, 3), UNKNOWN);
    }

    @Says(in = "Promise 24", value = "WHOM. UNKNOWN.")
    static void whomRefused(Edges e) {
        FollowCab x = e.town("t3 0;c0 1;c1 2;");
        e.due("the last car", x.whom(1), 1);
        for (int c : new int[] {-1, 2, LOW, HIGH}) {
            e.due("whom(" + c + ")", x.whom(c), UNKNOWN);
        }
    }

    @Says(in = "Promise 25", value = "LOOK; NONE. UNKNOWN.")
    static void lookRefused(Edges e) {
        FollowCab x = e.town("t3 0;c0 1;c1 2;c2 3;");
        e.due("the last car", x.look(2), 1);
        for (int c : new int[] {-1, 3, LOW, HIGH}) {
            e.due("look(" + c + ")", x.look(c), UNKNOWN);
        }
        e.due("two cars", e.town("t3 0;c0 1;c1 2;").look(1), NONE);
    }

    @Says(in = "Promise 26", value = "An entry behind THE BOOK: how many. UNKNOWN, FULL (15).")
    static void writeRefused(Edges e) {
        FollowCab x = e.town("t3 0;c0 1;c1 2;");
        for (int k : new int[] {-1, 3, 9, LOW, HIGH}) {
            e.due("write(" + k + ", 0)", x.write(k, 0), UNKNOWN);
            e.due("write(0, " + k + ")", x.write(0, k), UNKNOWN);
        }
        e.due("write(2, 0)", x.write(2, 0), UNKNOWN);
        e.due("no entry of it", x.told(10), 0);
        e.due("the last car, the last corner", x.write(1, 2), 1);
        for (int i = 2; i <= 15; i++) {
            e.due("the same again is written again", x.write(1, 2), i);
        }
        e.due("one more", x.write(0, 0), FULL);
        e.due("one more, UNKNOWN first", x.write(2, 0), UNKNOWN);
        e.due("one more, UNKNOWN first", x.write(0, 3), UNKNOWN);
        e.due("entries", x.told(10), 15);
    }

    @Says(in = "Promise 27", value = "Nothing SEEN, THE BOOK is empty: how much both had.")
    static void tornEmptyAndFull(Edges e) {
        FollowCab x = e.town("t3 0;c0 1;c1 2;");
        e.due("both are empty", x.tear(), 0);
        for (int i = 0; i < 16; i++) {
            x.see(0, 1, 2);
            x.write(0, 2);
        }
        e.due("both are full", x.tear(), 21);
        e.due("seen", x.told(9), 0);
        e.due("book", x.told(10), 0);
        e.due("all fit", x.whom(0), 2);
        e.due("nothing is wrong", x.judge(), NONE);
        e.due("the first seen again", x.see(0, 1, 1), 1);
        e.due("the first entry again", x.write(0, 0), 1);
        e.due("what was torn is not seen", x.whom(0), 2);
        e.due("what was torn is not wrong", x.judge(), NONE);
        e.due("torn again", x.tear(), 2);
        e.due("without a town", new FollowCab().tear(), 0);
    }

    @Says(in = "Promise 28", value = "WRONG; NONE.")
    static void judgedNow(Edges e) {
        e.due("without a town", new FollowCab().judge(), NONE);
        FollowCab x = e.town("t2 0;c0 1;c0 2;");
        x.write(0, 0);
        x.write(1, 0);
        e.due("all is so", x.judge(), NONE);
        x.step(1);
        e.due("now", x.judge(), 1);
        x.undo();
        e.due("undone", x.judge(), NONE);
    }

    @Says(in = "Promise 29", value = "THE SEED becomes v (0 .. 2147483647): what it was. OUTSIDE.")
    static void theLeastAndGreatestSeed(Edges e) {
        FollowCab x = new FollowCab();
        e.due("0 at first", x.seed(2147483647), 0);
        e.due("seed(-1)", x.seed(-1), OUTSIDE);
        e.due("seed(LOW)", x.seed(LOW), OUTSIDE);
        e.due("the greatest", x.seed(0), 2147483647);
        e.due("the least", x.seed(1), 0);
        e.due("one", x.seed(0), 1);
    }

    @Says(in = "Promise 30", value = "IMAGE i becomes what is so (nothing can be undone then): 1.")
    static void keptAnew(Edges e) {
        FollowCab x = e.town("t2 0;c0 21;");
        x.step(1);
        e.due("keep(0)", x.keep(0), 1);
        e.due("undo()", x.undo(), NOT);
        e.due("to be undone", x.told(11), 0);
        x.step(1);
        e.due("what comes behind can be undone", x.undo(), 0);
        x.step(1);
        e.due("keep(1)", x.keep(1), 1);
        x.step(1);
        x.goBack(0);
        e.due("image 0", x.told(4), 1);
        x.goBack(1);
        e.due("image 1", x.told(4), 2);
        e.due("over image 0", x.keep(0), 1);
        x.step(1);
        x.goBack(0);
        e.due("image 0 anew", x.told(4), 2);
    }

    @Says(in = "Promise 30", value = "UNKNOWN.")
    static void keepRefused(Edges e) {
        FollowCab x = e.town("t2 0;c0 21;");
        x.step(1);
        for (int i : new int[] {-1, 2, LOW, HIGH}) {
            e.due("keep(" + i + ")", x.keep(i), UNKNOWN);
        }
        e.due("it can be undone still", x.told(11), 1);
        e.due("without a town", new FollowCab().keep(1), 1);
    }

    @Says(in = "Promise 31", value = "What is so becomes IMAGE i (nothing can be undone then): 1.")
    static void goneBackTo(Edges e) {
        FollowCab x = e.town("t2 0;c0 21;");
        x.step(1);
        x.keep(0);
        x.step(3);
        e.due("goBack(0)", x.goBack(0), 1);
        e.due("undo()", x.undo(), NOT);
        e.due("steps", x.told(4), 1);
        x.step(5);
        e.due("goBack(0) again", x.goBack(0), 1);
        e.due("the image is as it was kept", x.told(4), 1);
        e.due("corner", x.car(0, 0), 1);
        e.due("to be undone", x.told(11), 0);
    }

    @Says(in = "Promise 31", value = "UNKNOWN, NOT: it was not kept.")
    static void goBackRefused(Edges e) {
        FollowCab x = e.town("t2 0;c0 21;");
        for (int i : new int[] {-1, 2, LOW, HIGH}) {
            e.due("goBack(" + i + ")", x.goBack(i), UNKNOWN);
        }
        e.due("goBack(0)", x.goBack(0), NOT);
        e.due("goBack(1)", x.goBack(1), NOT);
        x.keep(1);
        x.step(1);
        e.due("the other one is not kept", x.goBack(0), NOT);
        e.due("it can be undone still", x.told(11), 1);
        e.due("this one is", x.goBack(1), 1);
        FollowCab none = new FollowCab();
        none.seed(8);
        none.keep(0);
        none.seed(9);
        e.due("without a town", none.goBack(0), 1);
        e.due("the seed", none.seed(0), 8);
        e.due("no town", none.step(1), NOT);
    }

    private static FollowCab seen(Edges e, String town, int c, int n, int j) {
        FollowCab x = e.town(town);
        x.see(c, n, j);
        return x;
    }
}
