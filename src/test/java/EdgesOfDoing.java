/** Section 2 and promises 5 to 12: steps, followings, turns, drifts, what is undone. */
final class EdgesOfDoing {
    private static final int NONE = Edges.NONE, UNKNOWN = Edges.UNKNOWN, OUTSIDE = Edges.OUTSIDE, NOT = Edges.NOT, FULL = Edges.FULL;
    private static final int LOW = Edges.LOW, HIGH = Edges.HIGH;

    private EdgesOfDoing() {
    }

    // ---- section 2

    @Says(in = "2", value = "A STEP, all at once: a CAR that FOLLOWS another one goes to the CORNER where that one was ahead of the STEP;")
    static void allAtOnce(Edges e) {
        FollowCab x = e.town("t9 0;c0 1;c1 1;c2 1;c3 1;c4 1;c5 1;c6 1;c7 1;" + Edges.ring(8));
        x.step(1);
        for (int c = 0; c < 8; c++) {
            e.due("in a ring of all", x.car(c, 0), (c + 1) % 8);
        }
        FollowCab y = e.town("t4 0;c0 4;c1 1;c2 1;f1 0;f2 1;");
        y.step(1);
        e.due("the one ahead", y.car(0, 0), 3);
        e.due("behind a lower one, which has gone", y.car(1, 0), 0);
        e.due("behind a follower", y.car(2, 0), 1);
    }

    @Says(in = "2", value = "one that follows nobody goes to the next CORNER of its ROUND (the first of it at first, behind the last the first again;")
    static void behindTheLastTheFirst(Edges e) {
        for (int length = 1; length <= 6; length++) {
            FollowCab x = e.town("t7 0;c6 " + "123456".substring(0, length) + ";");
            e.due("at first the first is next", x.car(0, 3), 0);
            for (int n = 1; n <= 2 * length + 1; n++) {
                x.step(1);
                e.due("corner of a round of " + length, x.car(0, 0), (n - 1) % length);
                e.due("next of a round of " + length, x.car(0, 3), n % length);
            }
        }
    }

    @Says(in = "2", value = "it stays in its ROUND where it is, while it follows).")
    static void staysInItsRound(Edges e) {
        FollowCab x = e.town("t4 0;c3 123;c3 4;");
        x.step(2);
        x.follow(0, 1);
        x.step(5);
        e.due("next, while it follows", x.car(0, 3), 2);
        e.due("corner, while it follows", x.car(0, 0), 3);
        x.letOff(0);
        x.step(1);
        e.due("it goes on at its last", x.car(0, 0), 2);
        e.due("and begins again", x.car(0, 3), 0);
    }

    @Says(in = "2", value = "STEPS are counted; how many CORNERS each went to that were others than where it was, too (WENT).")
    static void whatIsCounted(Edges e) {
        FollowCab x = e.town("t2 0;c0 1;c0 1112;c0 2;f2 0;");
        int[] went = {0, 0, 0, 1, 2, 2, 2, 3};
        for (int n = 0; n < went.length; n++) {
            x.step(1);
            e.due("steps", x.told(4), n + 1);
            e.due("one that stays", x.car(0, 4), 0);
            e.due("one that goes now and then", x.car(1, 4), went[n]);
            e.due("one that follows to where it is", x.car(2, 4), 0);
        }
        FollowCab y = e.town("t2 0;c0 1;c1 1;f0 1;f1 0;");
        y.step(60);
        e.due("each step", y.car(0, 4), 60);
        FollowCab z = e.town("t3 0;");
        z.step(60);
        e.due("steps without cars", z.told(4), 60);
    }

    @Says(in = "2", value = "FOLLOWS is changed: from now on;")
    static void fromNowOn(Edges e) {
        FollowCab x = e.town("t4 0;c0 1;c1 2;c3 4;");
        x.follow(0, 1);
        e.due("not moved by it", x.car(0, 0), 0);
        x.step(1);
        e.due("from the next step on", x.car(0, 0), 1);
        x.follow(0, 2);
        x.step(1);
        e.due("another one", x.car(0, 0), 3);
    }

    @Says(in = "2", value = "LET OFF: it follows nobody.")
    static void itFollowsNobody(Edges e) {
        FollowCab x = e.town("t4 0;c0 3;c1 2;f0 1;");
        x.letOff(0);
        e.due("nobody", x.car(0, 1), NONE);
        e.due("not moved by it", x.car(0, 0), 0);
        x.step(1);
        e.due("its round", x.car(0, 0), 2);
    }

    @Says(in = "2", value = "TURNED: its ROUND is the other way about from now on (its last CORNER first; it begins at its first then).")
    static void theOtherWayAbout(Edges e) {
        for (int length = 1; length <= 6; length++) {
            String round = "123456".substring(0, length);
            FollowCab x = e.town("t6 0;c0 " + round + ";");
            x.step(2);
            int corner = x.car(0, 0);
            x.turn(0);
            e.due("round of " + length, x.car(0, 2), Integer.parseInt(new StringBuilder(round).reverse().toString()));
            e.due("begins at its first", x.car(0, 3), 0);
            e.due("not moved by it", x.car(0, 0), corner);
            for (int n = 0; n <= length; n++) {
                x.step(1);
                e.due("corner, " + (n + 1) + " on", x.car(0, 0), length - 1 - n % length);
            }
        }
        FollowCab y = e.town("t3 0;c0 121;c1 123;f1 0;");
        y.step(2);
        y.turn(0);
        e.due("like both ways, begun again", y.car(0, 3), 0);
        y.turn(1);
        e.due("one that follows is turned", y.car(1, 2), 321);
        e.due("and follows still", y.car(1, 1), 0);
    }

    // ---- promise 5

    @Says(in = "Promise 5", value = "0 CORNERS, 1 Q, 2 CARS, 3 letters of THE TEXT, 4 STEPS")
    static void toldOfTheTown(Edges e) {
        FollowCab x = e.town("t9 100;" + Edges.stayers(8));
        e.due("corners", x.told(0), 9);
        e.due("odds", x.told(1), 100);
        e.due("cars", x.told(2), 8);
        e.due("no letters", x.told(3), 0);
        e.due("no steps", x.told(4), 0);
        Checks.feedAll(x, "x".repeat(240));
        e.due("all letters", x.told(3), 240);
        x.step(60);
        e.due("steps", x.told(4), 60);
    }

    @Says(in = "Promise 5", value = "5 CORNERS with a CAR (a SET of CORNERS)")
    static void toldOfCornersWithACar(Edges e) {
        e.due("none", e.town("t9 0;").told(5), 0);
        e.due("all at the first", e.town("t9 0;" + Edges.stayers(8)).told(5), 1);
        e.due("the last", e.town("t9 0;c8 1;").told(5), 256);
        e.due("eight of nine", e.town("t9 0;c1 1;c2 1;c3 1;c4 1;c5 1;c6 1;c7 1;c8 1;").told(5), 510);
    }

    @Says(in = "Promise 5", value = "6 who follows somebody (a SET)")
    static void toldOfFollowers(Edges e) {
        FollowCab x = e.town("t1 0;" + Edges.stayers(8));
        e.due("nobody", x.told(6), 0);
        x.follow(7, 0);
        e.due("the last", x.told(6), 128);
        x.letOff(7);
        e.due("nobody again", x.told(6), 0);
        e.due("all", e.town("t1 0;" + Edges.stayers(8) + Edges.ring(8)).told(6), 255);
    }

    @Says(in = "Promise 5", value = "7 RINGS")
    static void toldOfRings(Edges e) {
        e.due("none", e.town("t1 0;" + Edges.stayers(8)).told(7), 0);
        e.due("one of all", e.town("t1 0;" + Edges.stayers(8) + Edges.ring(8)).told(7), 1);
        e.due("four", e.town("t1 0;" + Edges.stayers(8) + "f0 1;f1 0;f2 3;f3 2;f4 5;f5 4;f6 7;f7 6;").told(7), 4);
    }

    @Says(in = "Promise 5", value = "8 HEAD (a SET)")
    static void toldOfHeads(Edges e) {
        e.due("nobody is behind", e.town("t1 0;" + Edges.stayers(8)).told(8), 0);
        e.due("all of a ring at one corner", e.town("t1 0;" + Edges.stayers(8) + Edges.ring(8)).told(8), 255);
        e.due("no cars", e.town("t1 0;").told(8), 0);
    }

    @Says(in = "Promise 5", value = "9 how many are SEEN, 10 entries of THE BOOK, 11 how many can be undone.")
    static void toldOfWhatIsKept(Edges e) {
        FollowCab x = e.town("t1 0;c0 1;");
        for (int i = 1; i <= 22; i++) {
            x.see(0, 1, 0);
            x.write(0, 0);
            x.step(1);
            e.due("seen", x.told(9), Math.min(i, 6));
            e.due("book", x.told(10), Math.min(i, 15));
            e.due("to be undone", x.told(11), Math.min(i, 20));
        }
        x.tear();
        e.due("seen", x.told(9), 0);
        e.due("book", x.told(10), 0);
        e.due("to be undone", x.told(11), 20);
        x.keep(0);
        e.due("to be undone", x.told(11), 0);
    }

    @Says(in = "Promise 5", value = "OUTSIDE.")
    static void toldOutside(Edges e) {
        FollowCab x = e.town("t1 0;c0 1;");
        for (int what : new int[] {-1, 12, 13, LOW, HIGH}) {
            e.due("told(" + what + ")", x.told(what), OUTSIDE);
            e.due("told(" + what + ") without a town", new FollowCab().told(what), OUTSIDE);
        }
    }

    // ---- promise 6

    @Says(in = "Promise 6", value = "1 whom it follows (NONE)")
    static void carFollowsNobody(Edges e) {
        FollowCab x = e.town("t1 0;" + Edges.stayers(8) + "f0 7;f7 0;");
        e.due("the last one", x.car(0, 1), 7);
        e.due("the first one", x.car(7, 1), 0);
        e.due("nobody", x.car(1, 1), NONE);
    }

    @Says(in = "Promise 6", value = "2 its ROUND now, as figures")
    static void carRound(Edges e) {
        FollowCab x = e.town("t9 0;c0 1;c0 999999;c0 112;");
        e.due("the least", x.car(0, 2), 1);
        e.due("the greatest", x.car(1, 2), 999999);
        x.step(1);
        e.due("not where it is in it", x.car(2, 2), 112);
        x.turn(2);
        e.due("now", x.car(2, 2), 211);
    }

    @Says(in = "Promise 6", value = "3 the figure that is next (0: the first)")
    static void carNext(Edges e) {
        FollowCab x = e.town("t2 0;c0 1;c0 112212;");
        for (int n = 0; n <= 12; n++) {
            e.due("of one", x.car(0, 3), 0);
            e.due("of six", x.car(1, 3), n % 6);
            x.step(1);
        }
    }

    @Says(in = "Promise 6", value = "4 WENT.")
    static void carWent(Edges e) {
        FollowCab x = e.town("t2 0;c0 21;c0 1;");
        e.due("at first", x.car(0, 4), 0);
        x.step(60);
        e.due("each step", x.car(0, 4), 60);
        e.due("never", x.car(1, 4), 0);
    }

    @Says(in = "Promise 6", value = "UNKNOWN, OUTSIDE.")
    static void carRefused(Edges e) {
        FollowCab x = e.town("t9 0;c5 1;" + Edges.stayers(6) + "c8 1;");
        e.due("the first car", x.car(0, 0), 5);
        e.due("the last car", x.car(7, 0), 8);
        for (int c : new int[] {-1, 8, 9, LOW, HIGH}) {
            e.due("car(" + c + ", 0)", x.car(c, 0), UNKNOWN);
            e.due("car(" + c + ", 5)", x.car(c, 5), UNKNOWN);
        }
        for (int what : new int[] {-1, 5, LOW, HIGH}) {
            e.due("car(0, " + what + ")", x.car(0, what), OUTSIDE);
        }
        e.due("no cars", e.town("t1 0;").car(0, 0), UNKNOWN);
    }

    // ---- promise 7

    @Says(in = "Promise 7", value = "n STEPS (1 .. 60): STEPS.")
    static void fewestAndMostSteps(Edges e) {
        FollowCab x = e.town("t3 0;c0 123;");
        e.due("step(1)", x.step(1), 1);
        e.due("step(60)", x.step(60), 61);
        e.due("corner behind 61", x.car(0, 0), 0);
        for (int n : new int[] {0, -1, 61, LOW, HIGH}) {
            e.due("step(" + n + ")", x.step(n), OUTSIDE);
        }
        e.due("steps", x.told(4), 61);
    }

    @Says(in = "Promise 7", value = "OUTSIDE, NOT: no TOWN;")
    static void stepsWithoutATown(Edges e) {
        FollowCab x = new FollowCab();
        e.due("step(1)", x.step(1), NOT);
        e.due("step(60)", x.step(60), NOT);
        e.due("step(0): OUTSIDE first", x.step(0), OUTSIDE);
        e.due("step(61): OUTSIDE first", x.step(61), OUTSIDE);
        e.due("a town without cars is one", e.town("t1 0;").step(1), 1);
    }

    @Says(in = "Promise 7", value = "FULL: STEPS are above 9000 as it is called (n may pass that).")
    static void stepsAbove9000(Edges e) {
        FollowCab x = e.town("t2 0;c0 21;");
        e.stepTo(x, 9000);
        e.due("at 9000", x.step(1), 9001);
        e.due("at 9001", x.step(1), FULL);
        e.due("at 9001, OUTSIDE first", x.step(0), OUTSIDE);
        e.due("at 9001, OUTSIDE first", x.step(61), OUTSIDE);
        e.due("went", x.car(0, 4), 9001);
        x.undo();
        e.due("from 9000 past it", x.step(60), 9060);
        e.due("at 9060", x.step(60), FULL);
        e.due("undone", x.undo(), 19);
        x.undo();
        e.due("at 8940", x.step(59), 8999);
        e.due("at 8999", x.step(60), 9059);
        e.due("at 9059", x.step(1), FULL);
    }

    // ---- promise 8

    @Says(in = "Promise 8", value = "FOLLOWS another one: whom it followed (NONE).")
    static void followed(Edges e) {
        FollowCab x = e.town("t1 0;" + Edges.stayers(8));
        e.due("nobody", x.follow(0, 7), NONE);
        e.due("the last", x.follow(0, 1), 7);
        e.due("the same again", x.follow(0, 1), 1);
        e.due("one that follows it", x.follow(1, 0), NONE);
        e.due("the first", x.follow(1, 7), 0);
    }

    @Says(in = "Promise 8", value = "UNKNOWN.")
    static void followRefused(Edges e) {
        FollowCab x = e.town("t1 0;" + Edges.stayers(3));
        for (int c : new int[] {-1, 3, 8, LOW, HIGH}) {
            e.due("follow(" + c + ", 0)", x.follow(c, 0), UNKNOWN);
            e.due("follow(0, " + c + ")", x.follow(0, c), UNKNOWN);
            e.due("follow(" + c + ", " + c + ")", x.follow(c, c), UNKNOWN);
        }
        for (int c = 0; c < 3; c++) {
            e.due("one twice", x.follow(c, c), UNKNOWN);
        }
        e.due("nobody follows", x.told(6), 0);
        e.due("nothing to undo", x.told(11), 0);
        e.due("the last there are", x.follow(2, 1), NONE);
    }

    // ---- promise 9

    @Says(in = "Promise 9", value = "LET OFF: whom it followed.")
    static void letOffWhom(Edges e) {
        FollowCab x = e.town("t1 0;" + Edges.stayers(8) + "f0 7;f7 0;");
        e.due("the last", x.letOff(0), 7);
        e.due("the first", x.letOff(7), 0);
    }

    @Says(in = "Promise 9", value = "UNKNOWN, NOT: nobody.")
    static void letOffRefused(Edges e) {
        FollowCab x = e.town("t1 0;c0 1;c0 1;f0 1;");
        e.due("one that never followed", x.letOff(1), NOT);
        x.letOff(0);
        e.due("one that was let off", x.letOff(0), NOT);
        for (int c : new int[] {-1, 2, LOW, HIGH}) {
            e.due("letOff(" + c + ")", x.letOff(c), UNKNOWN);
        }
        e.due("what was refused is not to be undone", x.told(11), 1);
    }

    // ---- promise 10

    @Says(in = "Promise 10", value = "TURNED: its ROUND.")
    static void turnedRound(Edges e) {
        FollowCab x = e.town("t9 0;c0 1;c0 123456;c0 122;c0 919191;");
        e.due("one figure", x.turn(0), 1);
        e.due("six figures", x.turn(1), 654321);
        e.due("six figures again", x.turn(1), 123456);
        e.due("like figures", x.turn(2), 221);
        e.due("to and fro", x.turn(3), 191919);
        e.due("each can be undone, with no other round too", x.told(11), 5);
    }

    @Says(in = "Promise 10", value = "UNKNOWN.")
    static void turnRefused(Edges e) {
        FollowCab x = e.town("t2 0;c0 12;c0 12;");
        for (int c : new int[] {-1, 2, LOW, HIGH}) {
            e.due("turn(" + c + ")", x.turn(c), UNKNOWN);
        }
        e.due("nothing to undo", x.told(11), 0);
        e.due("the last there is", x.turn(1), 21);
    }

    // ---- promise 11

    @Says(in = "Promise 11", value = "n STEPS (1 .. 60) BY DRAWS: STEPS.")
    static void fewestAndMostDrifts(Edges e) {
        FollowCab x = e.town("t3 50;c0 123;c1 2;");
        e.due("drift(1)", x.drift(1), 1);
        e.due("drift(60)", x.drift(60), 61);
        for (int n : new int[] {0, -1, 61, LOW, HIGH}) {
            int seed = x.seed(5);
            e.due("drift(" + n + ")", x.drift(n), OUTSIDE);
            e.due("no draw of what is refused", x.seed(seed), 5);
        }
        e.due("steps", x.told(4), 61);
    }

    @Says(in = "Promise 11", value = "OUTSIDE, NOT: no TOWN;")
    static void driftsWithoutATown(Edges e) {
        FollowCab x = new FollowCab();
        e.due("drift(1)", x.drift(1), NOT);
        e.due("drift(0): OUTSIDE first", x.drift(0), OUTSIDE);
        e.due("drift(61): OUTSIDE first", x.drift(61), OUTSIDE);
        e.due("no draw of what is refused", x.seed(0), 0);
        e.due("a town without cars is one", e.town("t1 0;").drift(1), 1);
    }

    @Says(in = "Promise 11", value = "FULL: STEPS are above 9000 as it is called (n may pass that).")
    static void driftsAbove9000(Edges e) {
        FollowCab x = e.town("t2 0;c0 21;");
        e.stepTo(x, 9000);
        e.due("from 9000 past it", x.drift(60), 9060);
        e.due("at 9060", x.drift(1), FULL);
        e.due("at 9060, OUTSIDE first", x.drift(0), OUTSIDE);
        x.undo();
        e.due("at 9000", x.drift(1), 9001);
        int seed = x.seed(7);
        e.due("at 9001", x.drift(1), FULL);
        e.due("no draw of what is refused", x.seed(seed), 7);
    }

    // ---- promise 12

    @Says(in = "Promise 12", value = "The latest is undone: how many more can be.")
    static void theLatestIsUndone(Edges e) {
        FollowCab x = e.town("t4 100;c0 12;c1 34;c2 1;f2 0;");
        x.step(1);
        x.follow(0, 1);
        x.letOff(2);
        x.turn(1);
        x.drift(3);
        e.due("drift", x.undo(), 4);
        e.due("steps", x.told(4), 1);
        e.due("round, turned", x.car(1, 2), 43);
        e.due("turn", x.undo(), 3);
        e.due("round", x.car(1, 2), 34);
        e.due("next", x.car(1, 3), 1);
        e.due("nobody, let off", x.car(2, 1), NONE);
        e.due("letOff", x.undo(), 2);
        e.due("follows", x.car(2, 1), 0);
        e.due("follow", x.undo(), 1);
        e.due("follows nobody", x.car(0, 1), NONE);
        e.due("step", x.undo(), 0);
        e.due("steps", x.told(4), 0);
        e.due("corner", x.car(1, 0), 1);
        e.due("went", x.car(1, 4), 0);
        e.due("next", x.car(1, 3), 0);
    }

    @Says(in = "Promise 12", value = "NOT: none.")
    static void nothingIsUndone(Edges e) {
        FollowCab x = e.town("t1 0;c0 1;c0 1;");
        e.due("undo()", x.undo(), NOT);
        x.step(1);
        e.due("undo()", x.undo(), 0);
        e.due("undo()", x.undo(), NOT);
        e.due("an undoing is not undone", x.told(11), 0);
        e.due("steps", x.told(4), 0);
    }
}
