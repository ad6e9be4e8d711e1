/** Each promise of the document by number: ordinary inputs, edges, refusals and their order. */
public final class PromisesTest {
    private static final int NONE = -1, UNKNOWN = -1000000001, OUTSIDE = -1000000002, NOT = -1000000003, FULL = -1000000004;
    private static final int LOW = Integer.MIN_VALUE, HIGH = Integer.MAX_VALUE;
    /** Five cars; 3 follows 2, which follows 0. */
    private static final String BASE = "t6 30;c0 123;c1 46;c2 1;c3 2;c5 654321;f2 0;f3 2;";
    /** A ring 0 > 1 > 2 > 0 with 3 and 4 on it, a ring 5 > 6 > 5, and 7 alone. */
    private static final String RINGS = "t9 100;c0 9;c1 1;c2 1;c3 7;c4 5;c5 5;c6 9;c8 12;f0 1;f1 2;f2 0;f3 0;f4 3;f5 6;f6 5;";
    private static final Checks checks = new Checks();

    public static void main(String[] args) {
        newObject();
        feed();
        town();
        faultPlaces();
        townStartsAnew();
        told();
        car();
        step();
        follow();
        letOff();
        turn();
        drift();
        undo();
        where();
        sees();
        rings();
        end();
        behind();
        stop();
        cross();
        handed();
        meets();
        asked();
        see();
        whom();
        look();
        write();
        tear();
        judge();
        seed();
        keep();
        goBack();
        refusedChangesNothing();
        checks.finish();
    }

    private static void due(String call, long got, long want) {
        checks.due(call, got, want);
    }

    private static FollowCab base() {
        return Checks.inTown(BASE);
    }

    // Promise 1
    private static void newObject() {
        FollowCab x = new FollowCab();
        for (int what = 0; what <= 11; what++) {
            due("1: told(" + what + ")", x.told(what), 0);
        }
        due("1: fault()", x.fault(), NONE);
        due("1: car(0, 0)", x.car(0, 0), UNKNOWN);
        due("1: step(1)", x.step(1), NOT);
        due("1: step(0) is OUTSIDE ahead of NOT", x.step(0), OUTSIDE);
        due("1: drift(1)", x.drift(1), NOT);
        due("1: drift(61)", x.drift(61), OUTSIDE);
        due("1: follow(0, 1)", x.follow(0, 1), UNKNOWN);
        due("1: undo()", x.undo(), NOT);
        due("1: rings(NONE)", x.rings(NONE), 0);
        due("1: rings(0)", x.rings(0), NONE);
        due("1: stop()", x.stop(), 0);
        due("1: cross(0, 1)", x.cross(0, 1), UNKNOWN);
        due("1: meets(200)", x.meets(200), 0);
        due("1: asked(60)", x.asked(60), 1000000000);
        due("1: see(0, 1, 0)", x.see(0, 1, 0), UNKNOWN);
        due("1: tear()", x.tear(), 0);
        due("1: judge()", x.judge(), NONE);
        due("1: seed(5)", x.seed(5), 0);
        due("1: goBack(0)", x.goBack(0), NOT);
        due("1: keep(0)", x.keep(0), 1);
        due("1: goBack(0), kept without a town", x.goBack(0), 1);
    }

    // Promise 2
    private static void feed() {
        FollowCab x = new FollowCab();
        due("2: feed(-1)", x.feed(-1), OUTSIDE);
        due("2: feed(256)", x.feed(256), OUTSIDE);
        due("2: feed(LOW)", x.feed(LOW), OUTSIDE);
        due("2: feed(0)", x.feed(0), 1);
        due("2: feed(255)", x.feed(255), 2);
        for (int i = 3; i <= 240; i++) {
            due("2: feed", x.feed(' '), i);
        }
        due("2: feed, full", x.feed(' '), FULL);
        due("2: feed(256), full: OUTSIDE first", x.feed(256), OUTSIDE);
        due("2: told(3)", x.told(3), 240);
        due("2: town()", x.town(), -11);
        due("2: feed again", x.feed(' '), 1);
    }

    private static void fault(String text, int number, int place) {
        FollowCab x = base();
        Checks.feedAll(x, text);
        due("3: town() of '" + text + "'", x.town(), -10 - number);
        due("4: fault() of '" + text + "'", x.fault(), place);
        due("3: text is empty behind '" + text + "'", x.told(3), 0);
        due("3: the town stays behind '" + text + "'", x.told(0), 6);
        due("3: the cars stay behind '" + text + "'", x.told(2), 5);
        due("3: followings stay behind '" + text + "'", x.told(6), 12);
    }

    private static FollowCab good(String text, int cars) {
        FollowCab x = new FollowCab();
        Checks.feedAll(x, text);
        due("3: town() of '" + text + "'", x.town(), cars);
        due("4: fault() of '" + text + "'", x.fault(), NONE);
        return x;
    }

    // Promise 3, 4
    private static void town() {
        good("", 0);
        good("    ", 0);
        due("3: no cars", good("t1 0;", 0).told(0), 1);
        good("t9 100;", 0);
        due("3: six figures", good("t000009 000100;", 0).told(1), 100);
        FollowCab spaced = good("  t 6  30 ;  c 0 123 ; c1 46;f 1  0 ;  ", 2);
        due("3: spaced", spaced.told(6), 2);
        due("3: nothing between clause and word", good("t2 0;c0 1;c1 21;f0 1;f1 0;", 2).told(7), 1);
        FollowCab most = good("t9 0;c0 1;c1 2;c2 3;c3 4;c4 5;c5 6;c6 7;c8 123456;", 8);
        due("3: the eighth car", most.car(7, 2), 123456);
        due("3: the eighth car's corner", most.car(7, 0), 8);
        due("3: a figure for the last corner", good("t9 0;c0 999999;", 1).car(0, 2), 999999);
        due("3: cars may be told behind followings", good("t1 0;c0 1;c0 1;f0 1;c0 1;f2 0;", 3).told(6), 5);
    }

    private static void faultPlaces() {
        // 1: it cannot stand there
        fault("c0 1;", 1, 0);
        fault("  f0 1;", 1, 2);
        fault("x", 1, 0);
        fault(";", 1, 0);
        fault("7", 1, 0);
        fault("T6 30;", 1, 0);
        fault("t", 1, 1);
        fault("t  ", 1, 3);
        fault("t6", 1, 2);
        fault("t6 ", 1, 3);
        fault("t6;", 1, 2);
        fault("t6 30", 1, 5);
        fault("t6 30  ", 1, 7);
        fault("t6 30 1;", 1, 6);
        fault("t6 30c", 1, 5);
        fault("tt", 1, 1);
        fault("t6 t", 1, 3);
        fault("t6 -1;", 1, 3);
        fault("t6 30;;", 1, 6);
        fault("t6 30;5", 1, 6);
        fault("t6 30;c;", 1, 7);
        fault("t6 30;c0;", 1, 8);
        fault("t6 30;c0 1", 1, 10);
        fault("t6 30;c0 1 2;", 1, 11);
        fault("t6 30;c0 1;f0", 1, 13);
        fault("t6 30;" + (char) 0, 1, 6);
        fault("t6 30;" + (char) 255, 1, 6);
        fault("t6\t30;", 1, 2);
        // 2: numbers, corners, cars, rounds
        fault("t0 0;", 2, 1);
        fault("t10 0;", 2, 1);
        fault("t630;", 2, 1);
        fault("t 0000001 0;", 2, 2);
        fault("t99x", 2, 1);
        fault("t1234567", 2, 1);
        fault("t99999999999999999999 0;", 2, 1);
        fault("t1 101;", 2, 3);
        fault("t1 0000000;", 2, 3);
        fault("t3 0;c3 1;", 2, 6);
        fault("t3 0;c0 0;", 2, 8);
        fault("t3 0;c0 4;", 2, 8);
        fault("t3 0;c0 12304;", 2, 8);
        fault("t3 0;c0 124;", 2, 8);
        fault("t3 0;c0 102;", 2, 8);
        fault("t3 0;c0 012;", 2, 8);
        fault("t3 0;c0 1111111;", 2, 8);
        fault("t3 0;c0 4x", 2, 8);
        fault("t3 0;f0 1;", 2, 6);
        fault("t3 0;c0 1;f1 0;", 2, 11);
        fault("t3 0;c0 1;f0 1;", 2, 13);
        fault("t3 0;c0 1;f0 1;c0 1;", 2, 13);
        // 3: one too many
        fault("t1 0;t", 3, 5);
        fault("t1 0; t1 0;", 3, 6);
        fault("t1 0;c0 1;c0 1;c0 1;c0 1;c0 1;c0 1;c0 1;c0 1;c0 1;", 3, 45);
        fault("t1 0;c0 1;c0 1;c0 1;c0 1;c0 1;c0 1;c0 1;c0 1;cx", 3, 45);
        // 4: followings
        fault("t1 0;c0 1;f0 0;", 4, 13);
        fault("t1 0;c0 1;c0 1;f0 1;f0 1;", 4, 21);
        fault("t1 0;c0 1;c0 1;f0 1;f0 0;", 4, 21);
        fault("t1 0;c0 1;c0 1;f0 1;f0 9;", 4, 21);
        fault("t1 0;c0 1;c0 1;f1  00001x", 4, 19);
    }

    // Promise 3: what a town wipes away, and what stays
    private static void townStartsAnew() {
        FollowCab x = base();
        x.seed(77);
        x.step(3);
        x.see(0, 1, 1);
        x.write(0, 1);
        x.keep(0);
        x.step(1);
        Checks.feedAll(x, "t0");
        due("3: with a fault", x.town(), -12);
        due("4: its place", x.fault(), 1);
        due("3: with a fault, steps stay", x.told(4), 4);
        due("3: with a fault, what is seen stays", x.told(9), 1);
        due("3: with a fault, the book stays", x.told(10), 1);
        due("3: with a fault, what can be undone stays", x.told(11), 1);
        due("3: with a fault, images stay", x.goBack(0), 1);
        x.step(1);
        Checks.feedAll(x, "t2 5;c1 2;");
        due("3: another town", x.town(), 1);
        due("4: no fault any more", x.fault(), NONE);
        due("3: corners", x.told(0), 2);
        due("3: odds", x.told(1), 5);
        due("3: no steps", x.told(4), 0);
        due("3: nothing seen", x.told(9), 0);
        due("3: no book", x.told(10), 0);
        due("3: nothing to undo", x.undo(), NOT);
        due("3: images are gone", x.goBack(0), NOT);
        due("3: nobody follows", x.car(0, 1), NONE);
        due("3: went", x.car(0, 4), 0);
        due("3: the seed stays", x.seed(1), 77);
        x.keep(1);
        due("3: an empty text", x.town(), 0);
        due("3: no town", x.told(0), 0);
        due("3: no odds", x.told(1), 0);
        due("3: no cars", x.told(2), 0);
        due("3: step without a town", x.step(1), NOT);
        due("3: images are gone with no town, too", x.goBack(1), NOT);
    }

    // Promise 5
    private static void told() {
        FollowCab x = base();
        x.feed('t');
        due("5: corners", x.told(0), 6);
        due("5: odds", x.told(1), 30);
        due("5: cars", x.told(2), 5);
        due("5: letters", x.told(3), 1);
        due("5: steps", x.told(4), 0);
        due("5: corners with a car", x.told(5), 0b101111);
        due("5: who follows", x.told(6), 0b01100);
        due("5: rings", x.told(7), 0);
        due("5: head", x.told(8), 0);
        x.step(1);
        // 2 is where 0 was, and 0 is at its first corner, which is the same: 2 is behind 0
        due("5: head, one step on", x.told(8), 0b00001);
        due("5: steps", x.told(4), 1);
        x.see(0, 1, 1);
        x.write(0, 1);
        x.write(0, 2);
        due("5: seen", x.told(9), 1);
        due("5: book", x.told(10), 2);
        due("5: to be undone", x.told(11), 1);
        due("5: told(12)", x.told(12), OUTSIDE);
        due("5: told(-1)", x.told(-1), OUTSIDE);
        due("5: told(LOW)", x.told(LOW), OUTSIDE);
        FollowCab eight = Checks.inTown(RINGS);
        due("5: corners of eight", eight.told(5), 0b101111111);
        due("5: followers of eight", eight.told(6), 0b01111111);
        due("5: head of eight", eight.told(8), 0);
        eight.step(3);
        // the ring is as it was, 3 at corner 2, 4 at 1, 5 and 6 have changed places, 7 is at 0
        due("5: corners of eight", eight.told(5), 0b001100111);
        due("5: head of eight", eight.told(8), 0b110);
        due("5: rings there", Checks.inTown(RINGS).told(7), 2);
        // in a ring each is behind each: two at one corner are both told, and not one that is elsewhere
        due("5: head of a ring", Checks.inTown("t2 0;c0 1;c0 1;c1 1;c0 1;f0 1;f1 2;f2 0;").told(8), 0b011);
        // one that follows nobody has itself never behind it
        due("5: head without followers", Checks.inTown("t1 0;c0 1;c0 1;").told(8), 0);
        due("5: head along a chain", Checks.inTown("t1 0;c0 1;c0 1;c0 1;f0 1;f1 2;").told(8), 0b110);
    }

    // Promise 6
    private static void car() {
        FollowCab x = base();
        due("6: corner", x.car(4, 0), 5);
        due("6: follows nobody", x.car(0, 1), NONE);
        due("6: follows", x.car(3, 1), 2);
        due("6: round", x.car(4, 2), 654321);
        due("6: next", x.car(4, 3), 0);
        due("6: went", x.car(4, 4), 0);
        x.step(2);
        due("6: corner", x.car(4, 0), 4);
        due("6: next", x.car(4, 3), 2);
        due("6: went; the first corner was where it stood", x.car(4, 4), 1);
        due("6: next of a follower stays", x.car(3, 3), 0);
        due("6: next of a round gone through", x.car(1, 3), 0);
        due("6: car(5, 0)", x.car(5, 0), UNKNOWN);
        due("6: car(-1, 0)", x.car(-1, 0), UNKNOWN);
        due("6: car(HIGH, 9): UNKNOWN first", x.car(HIGH, 9), UNKNOWN);
        due("6: car(0, 5)", x.car(0, 5), OUTSIDE);
        due("6: car(0, -1)", x.car(0, -1), OUTSIDE);
    }

    // Promise 7
    private static void step() {
        FollowCab x = base();
        due("7: step(0)", x.step(0), OUTSIDE);
        due("7: step(61)", x.step(61), OUTSIDE);
        due("7: step(LOW)", x.step(LOW), OUTSIDE);
        due("7: step(1)", x.step(1), 1);
        due("7: 2 is where 0 was", x.car(2, 0), 0);
        due("7: 3 is where 2 was ahead of the step", x.car(3, 0), 2);
        due("7: step(3)", x.step(3), 4);
        due("7: 0 begins its round again", x.car(0, 0), 0);
        due("7: 2 is where 0 was", x.car(2, 0), 2);
        due("7: 3 is where 2 was", x.car(3, 0), 1);
        due("7: went of 3: to 2, 0, 0, 1 from 3", x.car(3, 4), 3);
        FollowCab ring = Checks.inTown("t3 0;c0 1;c1 1;c2 1;f0 1;f1 2;f2 0;");
        ring.step(1);
        due("7: a ring goes about", ring.car(0, 0) * 100 + ring.car(1, 0) * 10 + ring.car(2, 0), 120);
        FollowCab none = Checks.inTown("t3 0;");
        due("7: a town without cars", none.step(60), 60);
        FollowCab far = base();
        for (int i = 1; i <= 150; i++) {
            due("7: far", far.step(60), 60 * i);
        }
        due("7: at 9000 it is not full", far.step(60), 9060);
        due("7: full", far.step(1), FULL);
        due("7: full, but OUTSIDE first", far.step(0), OUTSIDE);
        due("11: drift is full as well", far.drift(1), FULL);
        due("7: what is full adds nothing", far.told(4), 9060);
        due("12: undone", far.undo(), 19);
        due("7: no more full", far.step(1), 9001);
        due("7: 9001 is above 9000", far.step(1), FULL);
    }

    // Promise 8
    private static void follow() {
        FollowCab x = base();
        due("8: it followed nobody", x.follow(0, 4), NONE);
        due("8: it followed 4", x.follow(0, 1), 4);
        due("8: the same again", x.follow(0, 1), 1);
        due("8: each can be undone", x.told(11), 3);
        due("8: follows", x.car(0, 1), 1);
        due("8: itself", x.follow(0, 0), UNKNOWN);
        due("8: follow(5, 0)", x.follow(5, 0), UNKNOWN);
        due("8: follow(0, 5)", x.follow(0, 5), UNKNOWN);
        due("8: follow(-1, 0)", x.follow(-1, 0), UNKNOWN);
        due("8: follow(0, NONE)", x.follow(0, NONE), UNKNOWN);
        x.step(1);
        due("8: from now on", x.car(0, 0), 1);
        due("8: it stays in its round", x.car(0, 3), 0);
    }

    // Promise 9
    private static void letOff() {
        FollowCab x = base();
        x.step(2);
        due("9: letOff(3)", x.letOff(3), 2);
        due("9: again", x.letOff(3), NOT);
        due("9: one that followed nobody", x.letOff(0), NOT);
        due("9: letOff(5)", x.letOff(5), UNKNOWN);
        due("9: letOff(-1)", x.letOff(-1), UNKNOWN);
        due("9: it follows nobody", x.car(3, 1), NONE);
        due("9: where it was", x.car(3, 0), 0);
        x.step(1);
        due("9: its round from its first on", x.car(3, 0), 1);
        FollowCab y = base();
        y.step(1);
        y.follow(0, 1);
        y.step(3);
        y.letOff(0);
        due("9: its round where it was", y.car(0, 3), 1);
        y.step(1);
        due("9: its second corner", y.car(0, 0), 1);
    }

    // Promise 10
    private static void turn() {
        FollowCab x = base();
        x.step(2);
        due("10: turn(0)", x.turn(0), 321);
        due("10: begins at its first", x.car(0, 3), 0);
        due("10: stays where it is", x.car(0, 0), 1);
        x.step(1);
        due("10: its last corner first", x.car(0, 0), 2);
        due("10: turn again", x.turn(0), 123);
        due("10: one that follows", x.turn(3), 2);
        due("10: it follows still", x.car(3, 1), 2);
        due("10: six", x.turn(4), 123456);
        due("10: turn(5)", x.turn(5), UNKNOWN);
        due("10: turn(-1)", x.turn(-1), UNKNOWN);
        due("10: turn(LOW)", x.turn(LOW), UNKNOWN);
    }

    // Promise 11
    private static void drift() {
        FollowCab x = base();
        due("11: drift(0)", x.drift(0), OUTSIDE);
        due("11: drift(61)", x.drift(61), OUTSIDE);
        due("11: drift(1)", x.drift(1), 1);
        // from 0: 12345 (/ 65536: 0 by 5 is car 0), then 1406932606 (21468 by 100 is 68, not below 30)
        due("11: two draws where none is asked", x.seed(0), 1406932606);
        due("11: nobody was asked", x.told(6), 12);
        FollowCab sure = Checks.inTown("t2 100;c0 1;c1 2;c0 2;c1 1;c0 1;");
        due("11: drift(1)", sure.drift(1), 1);
        // the third: 654583775 (9988 by 5 is car 3)
        due("11: 0 follows 3", sure.car(0, 1), 3);
        due("11: three draws", sure.seed(0), 654583775);
        due("11: it follows ahead of the step", sure.car(0, 0), 1);
        // the second, 68 of 100, is below 69 and not below 68
        FollowCab at = Checks.inTown("t2 68;c0 1;c1 2;c0 2;c1 1;c0 1;");
        at.drift(1);
        due("11: not below", at.told(6), 0);
        FollowCab below = Checks.inTown("t2 69;c0 1;c1 2;c0 2;c1 1;c0 1;");
        below.drift(1);
        due("11: below", below.told(6), 1);
        FollowCab never = Checks.inTown("t2 0;c0 1;c1 2;");
        never.drift(60);
        due("11: never asked", never.told(6), 0);
        FollowCab one = Checks.inTown("t2 100;c0 21;");
        one.drift(60);
        due("11: one does not follow itself", one.told(6), 0);
        due("11: one goes on", one.told(4), 60);
        FollowCab none = Checks.inTown("t2 100;");
        none.seed(9);
        due("11: a town without cars", none.drift(5), 5);
        due("11: no draw without cars", none.seed(0), 9);
        due("11: one drift is undone at once", sure.undo(), 0);
        due("11: undone", sure.told(4), 0);
        due("11: undone", sure.car(0, 1), NONE);
        FollowCab chosen = base();
        chosen.seed(HIGH);
        due("11: from the greatest seed", chosen.drift(2), 2);
        // 4 by 5 and 9 by 100, 2: 4 follows 2; then 3 by 5 and 13 by 100, 1: 3 follows 1
        due("11: from the greatest seed", chosen.told(6), 28);
        due("11: from the greatest seed", chosen.car(4, 1), 2);
        due("11: from the greatest seed", chosen.car(3, 1), 1);
        due("11: from the greatest seed", chosen.seed(0), 1849869457);
    }

    // Promise 12
    private static void undo() {
        FollowCab x = base();
        due("12: none", x.undo(), NOT);
        x.step(2);
        x.turn(0);
        x.follow(0, 1);
        x.letOff(3);
        x.seed(5);
        x.see(0, 1, 1);
        x.write(0, 1);
        x.drift(9);
        int seed = x.seed(6);
        x.step(0);
        x.letOff(1);
        x.follow(1, 1);
        due("12: what is refused is not kept", x.told(11), 5);
        due("12: drift undone", x.undo(), 4);
        due("12: the seed stays", x.seed(6), 6);
        due("12: it was drawn on", seed == 5 ? 1 : 0, 0);
        due("12: steps", x.told(4), 2);
        due("12: letOff undone", x.undo(), 3);
        due("12: it follows", x.car(3, 1), 2);
        due("12: follow undone", x.undo(), 2);
        due("12: it follows nobody", x.car(0, 1), NONE);
        due("12: turn undone", x.undo(), 1);
        due("12: its round", x.car(0, 2), 123);
        due("12: its next", x.car(0, 3), 2);
        due("12: step undone", x.undo(), 0);
        due("12: corner", x.car(0, 0), 0);
        due("12: went", x.car(0, 4), 0);
        due("12: what is seen stays", x.told(9), 1);
        due("12: the book stays", x.told(10), 1);
        due("12: none", x.undo(), NOT);
        for (int i = 1; i <= 25; i++) {
            x.step(1);
            due("12: twenty at most", x.told(11), Math.min(i, 20));
        }
        for (int i = 19; i >= 0; i--) {
            due("12: twenty undone", x.undo(), i);
            due("12: steps", x.told(4), 5 + i);
        }
        due("12: the oldest are lost", x.undo(), NOT);
        due("12: steps", x.told(4), 5);
    }

    // Promise 13
    private static void where() {
        FollowCab x = base();
        int[] round = {0, 0, 1, 2, 0, 1, 2};
        for (int n = 0; n < round.length; n++) {
            due("13: where(0, " + n + ")", x.where(0, n), round[n]);
        }
        due("13: a follower", x.where(3, 1), 2);
        due("13: a follower", x.where(3, 2), 0);
        due("13: a follower", x.where(3, 6), x.where(0, 4));
        due("13: farthest", x.where(0, 200), 1);
        due("13: where(0, 201)", x.where(0, 201), OUTSIDE);
        due("13: where(0, -1)", x.where(0, -1), OUTSIDE);
        due("13: where(5, 201): UNKNOWN first", x.where(5, 201), UNKNOWN);
        due("13: where(-1, 0)", x.where(-1, 0), UNKNOWN);
        due("13: nothing changes", x.told(4), 0);
        due("13: nothing changes", x.car(0, 3), 0);
    }

    // Promise 14
    private static void sees() {
        FollowCab x = base();
        due("14: sees(0, 2)", x.sees(0, 2), 1);
        due("14: sees(2, 0)", x.sees(2, 0), 1);
        due("14: never", x.sees(0, 1), NONE);
        due("14: itself", x.sees(0, 0), UNKNOWN);
        due("14: sees(0, 5)", x.sees(0, 5), UNKNOWN);
        due("14: sees(-1, 0)", x.sees(-1, 0), UNKNOWN);
        due("14: at once", Checks.inTown("t2 0;c1 1;c1 2;").sees(0, 1), 0);
        due("14: late", Checks.inTown("t7 0;c0 11112;c1 334356;").sees(0, 1), NONE);
        // 0 is at corner 1 every sixth step, 1 at it every fifth: first at 30
        due("14: thirty", Checks.inTown("t4 0;c0 111112;c2 33332;").sees(0, 1), 30);
        due("14: nothing changes", x.told(4), 0);
    }

    // Promise 15
    private static void rings() {
        FollowCab x = Checks.inTown(RINGS);
        due("15: how many", x.rings(NONE), 2);
        due("15: rings(0)", x.rings(0), 0b111);
        due("15: rings(1)", x.rings(1), 0b1100000);
        due("15: rings(2)", x.rings(2), NONE);
        due("15: rings(-2)", x.rings(-2), NONE);
        due("15: rings(LOW)", x.rings(LOW), NONE);
        due("15: rings(HIGH)", x.rings(HIGH), NONE);
        x.letOff(1);
        due("15: one is left", x.rings(NONE), 1);
        due("15: it is the first now", x.rings(0), 0b1100000);
        // by the least car, not by the set: 0 and 7 ahead of 1 and 2
        FollowCab y = Checks.inTown("t1 0;c0 1;c0 1;c0 1;c0 1;c0 1;c0 1;c0 1;c0 1;f0 7;f7 0;f1 2;f2 1;f3 4;f4 3;f5 6;f6 5;");
        due("15: four", y.rings(NONE), 4);
        due("15: 0 and 7", y.rings(0), 0b10000001);
        due("15: 1 and 2", y.rings(1), 0b110);
        due("15: 5 and 6", y.rings(3), 0b1100000);
        due("15: no ring", base().rings(NONE), 0);
        due("15: no ring", base().rings(0), NONE);
    }

    // Promise 16
    private static void end() {
        FollowCab x = Checks.inTown(RINGS);
        due("16: of a ring", x.end(2, 0), 0);
        due("16: of a ring", x.end(2, 1), 0);
        due("16: one off", x.end(3, 0), 0);
        due("16: one off", x.end(3, 1), 1);
        due("16: two off", x.end(4, 0), 0);
        due("16: two off", x.end(4, 1), 2);
        due("16: the other ring", x.end(6, 0), 5);
        due("16: alone", x.end(7, 0), 7);
        due("16: alone", x.end(7, 1), 0);
        due("16: a chain", base().end(3, 0), 0);
        due("16: a chain", base().end(3, 1), 2);
        // 0 comes to the ring of 1 and 2 at 2: the ring is told by its least
        FollowCab y = Checks.inTown("t1 0;c0 1;c0 1;c0 1;f0 2;f1 2;f2 1;");
        due("16: by its least car", y.end(0, 0), 1);
        due("16: by its least car", y.end(0, 1), 1);
        FollowCab chain = Checks.inTown("t1 0;c0 1;c0 1;c0 1;c0 1;c0 1;c0 1;c0 1;c0 1;f7 6;f6 5;f5 4;f4 3;f3 2;f2 1;f1 0;");
        due("16: the longest chain", chain.end(7, 0), 0);
        due("16: the longest chain", chain.end(7, 1), 7);
        due("16: end(0, 2)", x.end(0, 2), OUTSIDE);
        due("16: end(0, -1)", x.end(0, -1), OUTSIDE);
        due("16: end(8, 2): UNKNOWN first", x.end(8, 2), UNKNOWN);
        due("16: end(-1, 0)", x.end(-1, 0), UNKNOWN);
    }

    // Promise 17
    private static void behind() {
        FollowCab x = Checks.inTown(RINGS);
        due("17: of a ring, itself too", x.behind(0), 0b11111);
        due("17: of a ring", x.behind(2), 0b11111);
        due("17: on a ring", x.behind(3), 0b10000);
        due("17: the last", x.behind(4), 0);
        due("17: alone", x.behind(7), 0);
        due("17: the head of a chain, itself not", base().behind(0), 0b1100);
        due("17: behind(8)", x.behind(8), UNKNOWN);
        due("17: behind(-1)", x.behind(-1), UNKNOWN);
    }

    // Promise 18
    private static void stop() {
        due("18: none", base().stop(), 0);
        FollowCab x = Checks.inTown(RINGS);
        due("18: the least of each ring", x.stop(), 0b100001);
        x.letOff(0);
        due("18: one ring is left", x.stop(), 0b100000);
        due("18: nothing changes", x.rings(NONE), 1);
    }

    // Promise 19
    private static void cross() {
        FollowCab x = Checks.inTown("t3 0;c0 1112;");
        // 0 0 0 0 1 0 0 0 1 ..
        due("19: cross(0, 1)", x.cross(0, 1), 4);
        due("19: cross(0, 2)", x.cross(0, 2), NONE);
        due("19: cross(1, 1)", x.cross(1, 1), 0);
        due("19: cross(1, 4)", x.cross(1, 4), 0);
        due("19: cross(1, 5)", x.cross(1, 5), NONE);
        due("19: a corner where nobody comes", x.cross(2, 9), 0);
        due("19: cross(0, 0)", x.cross(0, 0), OUTSIDE);
        due("19: cross(0, 10)", x.cross(0, 10), OUTSIDE);
        due("19: cross(3, 0): UNKNOWN first", x.cross(3, 0), UNKNOWN);
        due("19: cross(-1, 1)", x.cross(-1, 1), UNKNOWN);
        due("19: without cars", Checks.inTown("t3 0;").cross(2, 9), 0);
        due("19: behind the first", Checks.inTown("t2 0;c1 1;").cross(1, 9), 1);
        due("19: nothing changes", x.told(4), 0);
    }

    // Promise 20
    private static void handed() {
        FollowCab x = base();
        due("20: handed(0, 2)", x.handed(0, 2), 1);
        due("20: handed(0, 3), by 2", x.handed(0, 3), 2);
        due("20: itself", x.handed(1, 1), UNKNOWN);
        due("20: handed(0, 5)", x.handed(0, 5), UNKNOWN);
        due("20: handed(5, 0)", x.handed(5, 0), UNKNOWN);
        due("20: at once", Checks.inTown("t2 0;c1 1;c1 2;").handed(0, 1), 0);
        // 0 stays at corner 0, 2 at corner 2; 1 goes between: 0 meets it at 1, 2 behind that at 2
        FollowCab between = Checks.inTown("t3 0;c0 1;c1 13;c2 3;");
        due("20: carried", between.handed(0, 2), 2);
        due("20: carried back: 1 is at 2 at 2, at 0 at 3", between.handed(2, 0), 3);
        due("20: never", Checks.inTown("t2 0;c0 1;c1 2;").handed(0, 1), NONE);
        // handed on within one corner at once: 0 has it, 1 and 2 are beside it
        due("20: all at one corner", Checks.inTown("t2 0;c0 1;c0 2;c0 2;").handed(0, 2), 0);
        FollowCab slow = Checks.inTown("t9 0;c0 11719;c1 222229;c2 37171;c3 444654;c4 54555;c5 663462;c6 75997;c7 888386;");
        due("20: through many", slow.handed(0, 7), 166);
        due("20: nothing changes", x.told(4), 0);
    }

    // Promise 21
    private static void meets() {
        FollowCab x = Checks.inTown("t3 0;c0 12;c0 13;c0 1;c2 3;");
        due("21: now", x.meets(0), 3);
        due("21: one on", x.meets(1), 3);
        due("21: two on", x.meets(2), 2);
        due("21: farthest", x.meets(200), 2);
        due("21: odd", x.meets(199), 3);
        due("21: meets(201)", x.meets(201), OUTSIDE);
        due("21: meets(-1)", x.meets(-1), OUTSIDE);
        due("21: without cars", Checks.inTown("t3 0;").meets(7), 0);
        due("21: nothing changes", x.told(4), 0);
    }

    // Promise 22
    private static void asked() {
        FollowCab x = base();
        due("22: asked(0)", x.asked(0), 1000000000);
        due("22: asked(1)", x.asked(1), 700000000);
        due("22: asked(2)", x.asked(2), 490000000);
        // 40353607 by seven tenths: 28247524.9, cut each time
        due("22: asked(9)", x.asked(9), 40353607);
        due("22: asked(10)", x.asked(10), 28247524);
        due("22: asked(11): the cut one goes on", x.asked(11), 19773266);
        due("22: asked(60)", x.asked(60), 0);
        due("22: asked(61)", x.asked(61), OUTSIDE);
        due("22: asked(-1)", x.asked(-1), OUTSIDE);
        FollowCab sure = Checks.inTown("t1 100;");
        due("22: sure, none", sure.asked(0), 1000000000);
        due("22: sure, one", sure.asked(1), 0);
        due("22: never", Checks.inTown("t1 0;").asked(60), 1000000000);
        // 99 of a hundred, one by one
        long left = 1000000000L;
        for (int i = 0; i < 60; i++) {
            left -= (left + 99) / 100;
        }
        due("22: one of a hundred", Checks.inTown("t1 1;").asked(60), left);
    }

    // Promise 23
    private static void see() {
        FollowCab x = base();
        due("23: see(5, 1, 0)", x.see(5, 1, 0), UNKNOWN);
        due("23: see(0, 1, 6)", x.see(0, 1, 6), UNKNOWN);
        due("23: see(0, 31, -1): UNKNOWN first", x.see(0, 31, -1), UNKNOWN);
        due("23: see(0, 0, 0)", x.see(0, 0, 0), OUTSIDE);
        due("23: see(0, 31, 0)", x.see(0, 31, 0), OUTSIDE);
        due("23: how much", x.see(0, 1, 5), 1);
        for (int i = 2; i <= 6; i++) {
            due("23: how much", x.see(4, 30, 0), i);
        }
        due("23: full", x.see(0, 1, 0), FULL);
        due("23: full, OUTSIDE first", x.see(0, 0, 0), OUTSIDE);
        due("23: full, UNKNOWN first", x.see(0, 1, 6), UNKNOWN);
        due("23: told", x.told(9), 6);
    }

    // Promise 24
    private static void whom() {
        FollowCab x = base();
        due("24: nothing seen: all others", x.whom(3), 0b10111);
        x.see(3, 1, 2);
        due("24: one was there", x.whom(3), 0b00100);
        due("24: not of another car", x.whom(0), 0b11110);
        x.see(3, 2, 0);
        due("24: it fits still", x.whom(3), 0b00100);
        x.step(1);
        // from now on: 0 is at 0, 2 at 0, 3 at 2; nobody is at 2 but itself
        due("24: tried from when it is asked", x.whom(3), 0);
        x.undo();
        due("24: as it was", x.whom(3), 0b00100);
        x.see(3, 30, 5);
        due("24: all of it", x.whom(3), 0);
        due("24: nothing changes", x.car(3, 1), 2);
        due("24: whom(5)", x.whom(5), UNKNOWN);
        due("24: whom(-1)", x.whom(-1), UNKNOWN);
        // by 1, which follows it, 0 goes about in a ring: 0 1 0 1 ..; by 2 it stays at 1
        FollowCab ring = Checks.inTown("t3 0;c0 3;c1 3;c1 2;f1 0;");
        ring.see(0, 2, 0);
        due("24: others follow it", ring.whom(0), 0b010);
        FollowCab stay = Checks.inTown("t3 0;c0 3;c1 3;c1 2;f1 0;");
        stay.see(0, 1, 1);
        due("24: alike at first", stay.whom(0), 0b110);
        stay.see(0, 30, 1);
        due("24: apart at last", stay.whom(0), 0b100);
        due("24: one car alone", Checks.inTown("t1 0;c0 1;").whom(0), 0);
    }

    // Promise 25
    private static void look() {
        FollowCab x = base();
        due("25: all are apart at once", x.look(3), 1);
        x.see(3, 1, 2);
        due("25: one is left", x.look(3), NONE);
        x.see(3, 2, 5);
        due("25: none is left", x.look(3), NONE);
        // 1 and 2 are at one corner at first, apart later: by 1 it is at 0 0 0 1, by 2 at 0 0 0 0
        FollowCab late = Checks.inTown("t2 0;c1 1;c0 112;c0 1;");
        due("25: later", late.look(0), 4);
        due("25: of none alike", Checks.inTown("t2 0;c1 1;c0 1;c0 1;").look(0), NONE);
        // four: apart 3 and 1 behind one step, 2 and 2 behind two: the latter is best
        FollowCab parts = Checks.inTown("t3 0;c2 3;c0 1;c0 1;c0 2;c1 2;");
        due("25: the greatest part is least", parts.look(0), 2);
        // the like of it comes again behind four: the least is told
        FollowCab again = Checks.inTown("t3 0;c2 3;c0 1;c1 2;");
        due("25: the soonest of like ones", again.look(0), 1);
        due("25: one car alone", Checks.inTown("t1 0;c0 1;").look(0), NONE);
        due("25: look(5)", x.look(5), UNKNOWN);
        due("25: look(-1)", x.look(-1), UNKNOWN);
        due("25: nothing changes", x.car(3, 1), 2);
        // 1 is at corner 0 but at its fifth step, 2 but at its sixth; 0 is there one step later
        // 1 and 2 are elsewhere at once only behind 29 steps of 30, which 0 shows behind 30: three parts, else two at most
        due("25: behind thirty", Checks.inTown("t3 0;c0 1;c0 11121;c0 111131;c0 1;").look(0), 30);
        due("25: not behind thirty-one", Checks.inTown("t3 0;c0 1;c0 11112;c0 111113;c0 1;").look(0), 6);
        due("25: behind six", Checks.inTown("t2 0;c1 1;c0 11112;c0 111112;").look(0), 6);
    }

    // Promise 26
    private static void write() {
        FollowCab x = base();
        due("26: write(5, 0)", x.write(5, 0), UNKNOWN);
        due("26: write(0, 6)", x.write(0, 6), UNKNOWN);
        due("26: write(-1, 0)", x.write(-1, 0), UNKNOWN);
        due("26: write(0, -1)", x.write(0, -1), UNKNOWN);
        for (int i = 1; i <= 15; i++) {
            due("26: how many", x.write(4, 5), i);
        }
        due("26: full", x.write(0, 0), FULL);
        due("26: full, UNKNOWN first", x.write(5, 0), UNKNOWN);
        due("26: told", x.told(10), 15);
    }

    // Promise 27
    private static void tear() {
        FollowCab x = base();
        due("27: nothing", x.tear(), 0);
        x.write(0, 1);
        x.write(0, 2);
        x.see(3, 1, 2);
        due("27: both", x.tear(), 3);
        due("27: nothing seen", x.told(9), 0);
        due("27: no book", x.told(10), 0);
        due("27: nothing is wrong", x.judge(), NONE);
        due("27: nothing is known", x.whom(3), 0b10111);
        due("27: room again", x.write(0, 0), 1);
    }

    // Promise 28
    private static void judge() {
        FollowCab x = base();
        due("28: empty", x.judge(), NONE);
        x.write(0, 0);
        x.write(1, 1);
        x.write(4, 5);
        due("28: all is so", x.judge(), NONE);
        x.step(1);
        due("28: the first that is otherwise", x.judge(), 1);
        x.undo();
        due("28: as it was", x.judge(), NONE);
        x.write(4, 0);
        due("28: the last", x.judge(), 3);
        x.step(2);
        due("28: the first now", x.judge(), 0);
    }

    // Promise 29
    private static void seed() {
        FollowCab x = base();
        due("29: 0 at first", x.seed(HIGH), 0);
        due("29: seed(-1)", x.seed(-1), OUTSIDE);
        due("29: seed(LOW)", x.seed(LOW), OUTSIDE);
        due("29: what it was", x.seed(0), HIGH);
        due("29: what it was", x.seed(3), 0);
        due("29: nothing can be undone by it", x.told(11), 0);
    }

    // Promise 30
    private static void keep() {
        FollowCab x = base();
        due("30: keep(2)", x.keep(2), UNKNOWN);
        due("30: keep(-1)", x.keep(-1), UNKNOWN);
        x.step(1);
        due("30: refused changes nothing", x.keep(HIGH), UNKNOWN);
        due("30: to be undone", x.told(11), 1);
        due("30: keep(0)", x.keep(0), 1);
        due("30: nothing can be undone then", x.undo(), NOT);
        x.step(1);
        due("30: keep(1)", x.keep(1), 1);
        x.step(5);
        due("30: the first", x.goBack(0), 1);
        due("30: the first", x.told(4), 1);
        due("30: the other", x.goBack(1), 1);
        due("30: the other", x.told(4), 2);
        due("30: over the first", x.keep(0), 1);
        x.step(9);
        x.goBack(0);
        due("30: over the first", x.told(4), 2);
    }

    // Promise 31
    private static void goBack() {
        FollowCab x = base();
        due("31: not kept", x.goBack(0), NOT);
        due("31: not kept", x.goBack(1), NOT);
        due("31: goBack(2)", x.goBack(2), UNKNOWN);
        due("31: goBack(-1)", x.goBack(-1), UNKNOWN);
        x.step(2);
        x.turn(4);
        x.seed(99);
        x.write(0, 1);
        x.keep(1);
        x.drift(20);
        x.turn(0);
        x.follow(0, 4);
        x.letOff(0);
        x.write(1, 5);
        x.see(0, 1, 1);
        due("31: not that one", x.goBack(0), NOT);
        due("31: refused changes nothing", x.told(11), 4);
        due("31: back", x.goBack(1), 1);
        due("31: nothing can be undone then", x.undo(), NOT);
        due("31: steps", x.told(4), 2);
        due("31: corner", x.car(0, 0), 1);
        due("31: follows", x.told(6), 12);
        due("31: round", x.car(0, 2), 123);
        due("31: round", x.car(4, 2), 123456);
        due("31: next", x.car(0, 3), 2);
        due("31: went", x.car(0, 4), 1);
        due("31: the seed", x.seed(1), 99);
        due("31: the book stays", x.told(10), 2);
        due("31: what is seen stays", x.told(9), 1);
        x.step(1);
        due("31: it can be gone back to again", x.goBack(1), 1);
        due("31: steps again", x.told(4), 2);
        due("31: the seed again", x.seed(1), 99);
    }

    private static void refusedChangesNothing() {
        FollowCab x = base();
        x.step(1);
        x.seed(4);
        x.feed(-1);
        x.told(99);
        x.step(0);
        x.drift(99);
        x.follow(0, 0);
        x.letOff(0);
        x.turn(9);
        x.see(0, 99, 0);
        x.write(0, 99);
        x.seed(-5);
        x.keep(7);
        x.goBack(0);
        int[] want = {6, 30, 5, 0, 1, x.told(5), 12, 0, 1, 0, 0, 1};
        for (int what = 0; what < want.length; what++) {
            due("refused: told(" + what + ")", x.told(what), want[what]);
        }
        due("refused: the seed", x.seed(0), 4);
    }
}
