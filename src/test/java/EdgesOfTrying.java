/** Section 3 as far as it is tried, and promises 13 to 22: where, sees, rings, crossings, what is handed along. */
final class EdgesOfTrying {
    private static final int NONE = Edges.NONE, UNKNOWN = Edges.UNKNOWN, OUTSIDE = Edges.OUTSIDE;
    private static final int LOW = Edges.LOW, HIGH = Edges.HIGH;
    /** Four rings of two, the least cars of which are 0, 1, 3, 5. */
    private static final String PAIRS = "t1 0;" + Edges.stayers(8) + "f0 7;f7 0;f1 2;f2 1;f3 4;f4 3;f5 6;f6 5;";
    /** A ring of 2, 5, 6 with 7 on 6, 0 on 7, and 1 on 3, which follows nobody; 4 alone. */
    private static final String MIXED = "t9 0;c0 1;c1 1;c2 1;c3 1;c4 1;c5 1;c6 1;c7 1;f2 5;f5 6;f6 2;f7 6;f0 7;f1 3;";

    private EdgesOfTrying() {
    }

    // ---- section 3

    @Says(in = "3", value = "WHERE is a CAR behind n STEPS (0 .. 200).")
    static void whereItWillBe(Edges e) {
        FollowCab x = e.town("t7 0;c6 123;c5 1;c4 1;f1 0;f2 1;");
        e.due("now", x.where(0, 0), 6);
        e.due("behind one", x.where(0, 1), 0);
        e.due("behind 200", x.where(0, 200), 1);
        e.due("a follower now", x.where(2, 0), 4);
        e.due("a follower behind one", x.where(2, 1), 5);
        e.due("a follower behind two", x.where(2, 2), 6);
        e.due("a follower behind 200", x.where(2, 200), 2);
        FollowCab y = e.town("t2 0;c0 21;");
        e.stepTo(y, 9060);
        e.due("behind 200, where no more steps can be done", y.where(0, 200), 0);
        e.due("behind 199, where no more steps can be done", y.where(0, 199), 1);
    }

    @Says(in = "3", value = "SEES: behind how many STEPS (0 .. 200) two CARS are at one CORNER first; NONE.")
    static void whoSeesWhomFirst(Edges e) {
        e.due("now", e.town("t2 0;c1 1;c1 2;").sees(0, 1), 0);
        e.due("behind one", e.town("t2 0;c0 1;c1 1;").sees(0, 1), 1);
        e.due("never", e.town("t2 0;c0 1;c1 2;").sees(0, 1), NONE);
        // the latest there can be: a ring of seven has 0 at its corner each seventh step, 7 comes there each sixth
        FollowCab late = e.town("t3 0;c0 1;c1 1;c1 1;c1 1;c1 1;c1 1;c1 1;c2 333331;" + Edges.ring(7));
        e.due("behind 42", late.sees(0, 7), 42);
        e.due("behind 42", late.sees(7, 0), 42);
        // two that are there each second step, never at once
        e.due("never at once", e.town("t3 0;c0 21;c2 13;").sees(0, 1), NONE);
    }

    @Says(in = "3", value = "A RING: CARS each of which follows the next, the last the first.")
    static void theLeastAndTheGreatestRing(Edges e) {
        FollowCab all = e.town("t1 0;" + Edges.stayers(8) + Edges.ring(8));
        e.due("of all", all.rings(0), 255);
        all.letOff(3);
        e.due("one is let off: no ring", all.rings(NONE), 0);
        e.due("of two", e.town("t1 0;c0 1;c0 1;f0 1;f1 0;").rings(0), 3);
        e.due("one that follows onto a ring is not of it", e.town(MIXED).rings(0), 0b01100100);
    }

    @Says(in = "3", value = "RINGS: how many; the i-th (a SET; by its least CAR, rising); NONE.")
    static void ringsByTheirLeast(Edges e) {
        FollowCab x = e.town(PAIRS);
        e.due("how many", x.rings(NONE), 4);
        e.due("by the least, not by the set", x.rings(0), 0b10000001);
        e.due("the second", x.rings(1), 0b110);
        e.due("the third", x.rings(2), 0b11000);
        e.due("the last", x.rings(3), 0b1100000);
        e.due("one more", x.rings(4), NONE);
    }

    @Says(in = "3", value = "the RING (told by its least CAR) or the CAR that follows nobody, to which it comes from one to whom it follows: the CAR;")
    static void whoseEndIsWhose(Edges e) {
        FollowCab x = e.town(MIXED);
        int[] ends = {2, 3, 2, 3, 4, 2, 2, 2};
        for (int c = 0; c < 8; c++) {
            e.due("end of " + c, x.end(c, 0), ends[c]);
        }
        FollowCab all = e.town("t1 0;" + Edges.stayers(8) + Edges.ring(8));
        e.due("of a ring of all, the first", all.end(0, 0), 0);
        e.due("of a ring of all, the last", all.end(7, 0), 0);
        e.due("of the last two", e.town("t1 0;" + Edges.stayers(8) + "f6 7;f7 6;").end(7, 0), 6);
    }

    @Says(in = "3", value = "how many times on (0: it is of that RING, is that CAR).")
    static void howManyTimesOn(Edges e) {
        FollowCab x = e.town(MIXED);
        int[] times = {2, 1, 0, 0, 0, 0, 0, 1};
        for (int c = 0; c < 8; c++) {
            e.due("times of " + c, x.end(c, 1), times[c]);
        }
        FollowCab chain = e.town("t1 0;" + Edges.stayers(8) + "f0 1;f1 2;f2 3;f3 4;f4 5;f5 6;f6 7;");
        e.due("along all", chain.end(0, 1), 7);
        e.due("along all", chain.end(0, 0), 7);
        chain.follow(7, 6);
        e.due("onto a ring at the end of all", chain.end(0, 1), 6);
        e.due("onto a ring at the end of all", chain.end(0, 0), 6);
    }

    @Says(in = "3", value = "BEHIND: all CARS (a SET) that lead to a CAR by whom they follow (itself only in a RING).")
    static void itselfOnlyInARing(Edges e) {
        FollowCab x = e.town(MIXED);
        int ring = 0b11100101;
        int[] behind = {0, 0, ring, 0b10, 0, ring, ring, 1};
        for (int c = 0; c < 8; c++) {
            e.due("behind " + c, x.behind(c), behind[c]);
        }
        e.due("in a ring of all", e.town("t1 0;" + Edges.stayers(8) + Edges.ring(8)).behind(5), 255);
    }

    @Says(in = "3", value = "STOP: the fewest CARS to be LET OFF, so that no RING is left; of like ones the least SET: the SET.")
    static void theFewestWhoMustStop(Edges e) {
        e.due("no ring", e.town("t1 0;" + Edges.stayers(8) + "f0 1;").stop(), 0);
        e.due("a ring of all", e.town("t1 0;" + Edges.stayers(8) + Edges.ring(8)).stop(), 1);
        e.due("the least of a ring, not one on it", e.town(MIXED).stop(), 0b100);
        e.due("four rings", e.town(PAIRS).stop(), 0b101011);
        FollowCab x = e.town(PAIRS);
        for (int c : new int[] {0, 1, 3, 5}) {
            x.letOff(c);
        }
        e.due("no ring is left", x.rings(NONE), 0);
        e.due("no one must stop then", x.stop(), 0);
    }

    @Says(in = "3", value = "CROSS at a CORNER for w STEPS (1 .. 9): behind how many STEPS (0 .. 200) first no CAR is there, nor for w less 1 STEPS more; NONE.")
    static void whereOneCanCross(Edges e) {
        // 3 of 4, 4 of 5 and 5 of 6 steps: the corner is free each sixtieth alone
        FollowCab late = e.town("t2 0;c0 1112;c0 11112;c0 111112;");
        e.due("behind sixty", late.cross(0, 1), 60);
        e.due("never for two", late.cross(0, 2), NONE);
        FollowCab two = e.town("t2 0;c0 1122;c0 11122;c0 111122;");
        e.due("for two, behind 59", two.cross(0, 2), 59);
        e.due("never for three", two.cross(0, 3), NONE);
        FollowCab now = e.town("t3 0;c0 22221;");
        e.due("a car is there now, not behind", now.cross(0, 1), 1);
        e.due("for four", now.cross(0, 4), 1);
        e.due("never for five", now.cross(0, 5), NONE);
        e.due("nobody comes there: the longest, now", e.town("t3 0;c0 1;").cross(2, 9), 0);
        // each of a chain leaves corner 1 one step behind the one ahead; the last is there for seven, now too
        FollowCab chain = e.town("t2 0;c0 1;c1 1;c1 1;c1 1;c1 1;c1 1;c1 1;c1 1;f1 0;f2 1;f3 2;f4 3;f5 4;f6 5;f7 6;");
        e.due("behind the last of a chain", chain.cross(1, 9), 7);
        e.due("never where the first stays", chain.cross(0, 1), NONE);
        FollowCab gap = e.town("t2 0;c1 2212;");
        e.due("for three from now", gap.cross(0, 3), 0);
        e.due("never for four", gap.cross(0, 4), NONE);
    }

    @Says(in = "3", value = "HANDED: behind how many STEPS (0 .. 200) what one CAR has now can be with another one at the soonest, handed on, now and behind each STEP, to all that are at one CORNER; NONE.")
    static void whatIsHandedAlong(Edges e) {
        e.due("now", e.town("t2 0;c1 1;c1 2;").handed(0, 1), 0);
        e.due("behind one", e.town("t2 0;c0 1;c1 1;").handed(0, 1), 1);
        e.due("never", e.town("t2 0;c0 1;c1 2;").handed(0, 1), NONE);
        // 0 hands to 1 now, though they part at once; 1 comes to 2 behind one step, where 0 never comes
        FollowCab on = e.town("t3 0;c0 1;c0 3;c2 3;");
        e.due("handed now, carried on", on.handed(0, 2), 1);
        e.due("never back, as they have parted", on.handed(2, 0), NONE);
        e.due("to all at one corner at once", e.town("t1 0;" + Edges.stayers(8)).handed(7, 0), 0);
        FollowCab late = e.town("t9 0;c0 88886;c1 57774;c2 293229;c3 34447;c4 75568;c5 331491;c6 119152;c7 922916;");
        e.due("through many, as late as has been found", late.handed(0, 2), 171);
    }

    @Says(in = "3", value = "MEETS: how many CARS are at the fullest CORNER behind n STEPS (0 .. 200).")
    static void howManyMeet(Edges e) {
        e.due("all", e.town("t9 0;" + Edges.stayers(8)).meets(200), 8);
        e.due("all at the last corner", e.town("t9 0;" + "c0 9;".repeat(8)).meets(1), 8);
        FollowCab x = e.town("t3 0;c0 12;c0 13;c0 1;c2 3;");
        e.due("now", x.meets(0), 3);
        e.due("behind 199", x.meets(199), 3);
        e.due("behind 200", x.meets(200), 2);
        e.due("no cars", e.town("t9 0;").meets(0), 0);
        e.due("one each", e.town("t2 0;c0 2;c1 1;").meets(200), 1);
    }

    @Says(in = "3", value = "HEAD: CARS (a SET) that now are at one CORNER with another one that is BEHIND them.")
    static void whoHasHimselfBehindHim(Edges e) {
        FollowCab two = e.town("t2 0;c0 1;c0 1;f1 0;");
        e.due("the one ahead, not the one behind", two.told(8), 1);
        e.due("not at one corner", e.town("t2 0;c0 1;c1 1;f1 0;").told(8), 0);
        e.due("at one corner, not behind", e.town("t2 0;c0 1;c0 1;").told(8), 0);
        e.due("behind by another one, who is elsewhere", e.town("t2 0;c0 1;c1 1;c0 1;f1 0;f2 1;").told(8), 1);
        // alone at its corner: behind itself, but not another one
        e.due("itself is not another one", e.town("t2 0;c0 1;c1 1;f0 1;f1 0;").told(8), 0);
        e.due("a ring at one corner", e.town("t2 0;c1 1;c1 1;f0 1;f1 0;").told(8), 3);
    }

    @Says(in = "3", value = "ASKED: odds that none of n drivers (0 .. 60) is asked, each by Q of a hundred: a BILLION times (100 less Q) / 100 each (cut).")
    static void oddsOfAnAsking(Edges e) {
        e.due("of none", e.town("t1 100;").asked(0), 1000000000);
        e.due("surely asked", e.town("t1 100;").asked(1), 0);
        e.due("surely asked", e.town("t1 100;").asked(60), 0);
        e.due("surely not asked", e.town("t1 0;").asked(60), 1000000000);
        e.due("99 of a hundred, nine figures", e.town("t1 99;").asked(4), 10);
        e.due("99 of a hundred, cut", e.town("t1 99;").asked(5), 0);
        // 990000000, 980100000, 970299000, 960596010, 950990049.9: cut, then 941480148.51 (of the whole 941480149.401)
        e.due("whole", e.town("t1 1;").asked(4), 960596010);
        e.due("cut once", e.town("t1 1;").asked(5), 950990049);
        e.due("cut each time", e.town("t1 1;").asked(6), 941480148);
    }

    // ---- promises 13 to 22

    @Says(in = "Promise 13", value = "UNKNOWN, OUTSIDE.")
    static void whereRefused(Edges e) {
        FollowCab x = e.town("t2 0;c0 1;c1 2;");
        e.due("the last car, the last step", x.where(1, 200), 1);
        e.due("the first car, no step", x.where(0, 0), 0);
        for (int c : new int[] {-1, 2, LOW, HIGH}) {
            e.due("where(" + c + ", 0)", x.where(c, 0), UNKNOWN);
            e.due("where(" + c + ", 201): UNKNOWN first", x.where(c, 201), UNKNOWN);
        }
        for (int n : new int[] {-1, 201, LOW, HIGH}) {
            e.due("where(0, " + n + ")", x.where(0, n), OUTSIDE);
        }
    }

    @Says(in = "Promise 14", value = "SEES; NONE. UNKNOWN.")
    static void seesRefused(Edges e) {
        FollowCab x = e.town("t2 0;c0 1;c1 2;");
        e.due("never", x.sees(0, 1), NONE);
        for (int c : new int[] {-1, 2, LOW, HIGH}) {
            e.due("sees(" + c + ", 0)", x.sees(c, 0), UNKNOWN);
            e.due("sees(0, " + c + ")", x.sees(0, c), UNKNOWN);
        }
        e.due("one twice", x.sees(0, 0), UNKNOWN);
        e.due("one twice", x.sees(1, 1), UNKNOWN);
    }

    @Says(in = "Promise 15", value = "RINGS: i = NONE how many, else a SET; NONE.")
    static void ringsThatThereAreNot(Edges e) {
        FollowCab none = e.town("t1 0;c0 1;c0 1;f0 1;");
        e.due("how many", none.rings(NONE), 0);
        e.due("the first", none.rings(0), NONE);
        FollowCab one = e.town("t1 0;c0 1;c0 1;f0 1;f1 0;");
        e.due("how many", one.rings(NONE), 1);
        e.due("the first", one.rings(0), 3);
        for (int i : new int[] {1, 2, 8, HIGH, -2, LOW}) {
            e.due("rings(" + i + ")", one.rings(i), NONE);
        }
    }

    @Says(in = "Promise 16", value = "what = 0 the CAR, 1 how many times on. UNKNOWN, OUTSIDE.")
    static void endRefused(Edges e) {
        FollowCab x = e.town("t1 0;c0 1;c0 1;f1 0;");
        e.due("the car", x.end(1, 0), 0);
        e.due("times on", x.end(1, 1), 1);
        for (int c : new int[] {-1, 2, LOW, HIGH}) {
            e.due("end(" + c + ", 0)", x.end(c, 0), UNKNOWN);
            e.due("end(" + c + ", 2): UNKNOWN first", x.end(c, 2), UNKNOWN);
        }
        for (int what : new int[] {-1, 2, LOW, HIGH}) {
            e.due("end(1, " + what + ")", x.end(1, what), OUTSIDE);
        }
    }

    @Says(in = "Promise 17", value = "BEHIND. UNKNOWN.")
    static void behindRefused(Edges e) {
        FollowCab x = e.town("t1 0;c0 1;c0 1;f0 1;");
        e.due("the last car", x.behind(1), 1);
        e.due("nobody", x.behind(0), 0);
        for (int c : new int[] {-1, 2, LOW, HIGH}) {
            e.due("behind(" + c + ")", x.behind(c), UNKNOWN);
        }
    }

    @Says(in = "Promise 18", value = "STOP.")
    static void stopIsNeverRefused(Edges e) {
        e.due("no town", new FollowCab().stop(), 0);
        e.due("no cars", e.town("t1 0;").stop(), 0);
        e.due("one car", e.town("t1 0;c0 1;").stop(), 0);
    }

    @Says(in = "Promise 19", value = "CROSS; NONE. UNKNOWN, OUTSIDE.")
    static void crossRefused(Edges e) {
        FollowCab x = e.town("t3 0;c0 1;");
        e.due("never", x.cross(0, 1), NONE);
        e.due("the last corner, the longest", x.cross(2, 9), 0);
        e.due("the shortest", x.cross(2, 1), 0);
        for (int j : new int[] {-1, 3, 8, 9, LOW, HIGH}) {
            e.due("cross(" + j + ", 1)", x.cross(j, 1), UNKNOWN);
            e.due("cross(" + j + ", 0): UNKNOWN first", x.cross(j, 0), UNKNOWN);
        }
        for (int w : new int[] {0, -1, 10, LOW, HIGH}) {
            e.due("cross(0, " + w + ")", x.cross(0, w), OUTSIDE);
        }
        e.due("corner 8 of 9", e.town("t9 0;").cross(8, 9), 0);
        e.due("corner 9 of 9", e.town("t9 0;").cross(9, 9), UNKNOWN);
    }

    @Says(in = "Promise 20", value = "HANDED; NONE. UNKNOWN.")
    static void handedRefused(Edges e) {
        FollowCab x = e.town("t2 0;c0 1;c1 2;");
        e.due("never", x.handed(0, 1), NONE);
        for (int c : new int[] {-1, 2, LOW, HIGH}) {
            e.due("handed(" + c + ", 0)", x.handed(c, 0), UNKNOWN);
            e.due("handed(0, " + c + ")", x.handed(0, c), UNKNOWN);
        }
        e.due("one twice", x.handed(0, 0), UNKNOWN);
        e.due("one twice", x.handed(1, 1), UNKNOWN);
    }

    @Says(in = "Promise 21", value = "MEETS. OUTSIDE.")
    static void meetsRefused(Edges e) {
        FollowCab x = e.town("t2 0;c0 1;c0 12;");
        e.due("no step", x.meets(0), 2);
        e.due("the last step", x.meets(200), 1);
        for (int n : new int[] {-1, 201, LOW, HIGH}) {
            e.due("meets(" + n + ")", x.meets(n), OUTSIDE);
            e.due("meets(" + n + ") without a town", new FollowCab().meets(n), OUTSIDE);
        }
    }

    @Says(in = "Promise 22", value = "ASKED. OUTSIDE.")
    static void askedRefused(Edges e) {
        FollowCab x = e.town("t2 50;");
        e.due("none", x.asked(0), 1000000000);
        e.due("the most", x.asked(60), 0);
        e.due("29", x.asked(29), 1);
        for (int n : new int[] {-1, 61, LOW, HIGH}) {
            e.due("asked(" + n + ")", x.asked(n), OUTSIDE);
            e.due("asked(" + n + ") without a town", new FollowCab().asked(n), OUTSIDE);
        }
    }
}
