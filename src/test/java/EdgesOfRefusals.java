import java.util.function.Consumer;
import java.util.function.ToIntFunction;

/** The terms: numbers, sets, the order of refusals; what is refused or tried changes nothing; 512 calls. */
final class EdgesOfRefusals {
    private static final int NONE = Edges.NONE, UNKNOWN = Edges.UNKNOWN, OUTSIDE = Edges.OUTSIDE, NOT = Edges.NOT, FULL = Edges.FULL;
    private static final String THREE = "t4 30;c0 12;c1 34;c2 1;f2 0;";

    private EdgesOfRefusals() {
    }

    @Says(in = "What it is", value = "An object is used for at most 512 calls after it has been made;")
    static void theLastCall(Edges e) {
        FollowCab x = new FollowCab();
        Checks.feedAll(x, "t2 0;c0 21;");
        x.town();
        for (int i = 13; i <= 509; i++) {
            x.step(1);
        }
        e.due("call 510", x.told(4), 497);
        e.due("call 511", x.undo(), 19);
        e.due("call 512", x.car(0, 4), 496);
    }

    @Says(in = "Terms", value = "/ cuts towards 0.")
    static void cutTowardsZero(Edges e) {
        e.due("0.1", e.town("t1 99;").asked(5), 0);
        e.due("28247524.9", e.town("t1 30;").asked(10), 28247524);
    }

    @Says(in = "Terms", value = "What has a number has it from 0 on, as it comes.")
    static void numbersFromZeroOn(Edges e) {
        FollowCab x = e.town("t3 0;c2 3;c1 2;c1 1;f0 2;f2 0;");
        e.due("the first car", x.car(0, 0), 2);
        e.due("the last car", x.car(2, 2), 1);
        e.due("the first ring", x.rings(0), 0b101);
        x.write(0, 0);
        e.due("the first entry", x.judge(), 0);
        e.due("the first image", x.keep(0), 1);
        e.due("the first letter", e.fault("x", 1, 0).fault(), 0);
    }

    @Says(in = "Terms", value = "A SET is a whole number, bit k for k (of CARS, if nothing else is told).")
    static void setsByBits(Edges e) {
        FollowCab x = e.town("t9 0;c8 1;" + Edges.stayers(7) + "f7 0;");
        e.due("of cars: the last", x.told(6), 1 << 7);
        e.due("of cars: the last", x.behind(0), 1 << 7);
        e.due("of corners: the first, the last", x.told(5), 1 << 8 | 1);
        e.due("the empty one", x.stop(), 0);
    }

    @Says(in = "Terms", value = "NONE is -1.")
    static void noneIsMinusOne(Edges e) {
        e.due("NONE", FollowCab.NONE, -1);
        e.due("fault()", new FollowCab().fault(), -1);
        e.due("rings(-1)", e.town("t1 0;").rings(-1), 0);
    }

    @Says(in = "Terms", value = "They are far below all that is counted: -1000000001 and on.")
    static void refusalsByNumber(Edges e) {
        e.due("UNKNOWN", FollowCab.UNKNOWN, -1000000001);
        e.due("OUTSIDE", FollowCab.OUTSIDE, -1000000002);
        e.due("NOT", FollowCab.NOT, -1000000003);
        e.due("FULL", FollowCab.FULL, -1000000004);
    }

    @Says(in = "Terms", value = "BILLION is 1000000000.")
    static void theBillion(Edges e) {
        e.due("asked(0)", e.town("t1 50;").asked(0), 1000000000);
    }

    @Says(in = "Terms", value = "UNKNOWN (a CORNER, CAR, IMAGE that there is not;")
    static void whatThereIsNot(Edges e) {
        FollowCab x = e.town("t2 0;c0 1;");
        e.due("a corner", x.cross(2, 1), UNKNOWN);
        e.due("a car", x.behind(1), UNKNOWN);
        e.due("an image", x.keep(2), UNKNOWN);
        FollowCab y = e.town("t2 0;");
        e.due("a corner where no car is", y.cross(1, 1), 0);
        e.due("no car", y.behind(0), UNKNOWN);
        FollowCab z = new FollowCab();
        e.due("no corner", z.cross(0, 1), UNKNOWN);
        e.due("an image without a town", z.keep(1), 1);
    }

    @Says(in = "Terms", value = "one twice, where two are asked)")
    static void oneTwice(Edges e) {
        FollowCab x = e.town("t2 0;c0 1;c0 1;");
        e.due("follow(1, 1)", x.follow(1, 1), UNKNOWN);
        e.due("sees(1, 1)", x.sees(1, 1), UNKNOWN);
        e.due("handed(1, 1)", x.handed(1, 1), UNKNOWN);
        e.due("a car and a corner are not one twice", x.write(1, 1), 1);
        e.due("a car and a corner are not one twice", x.see(1, 1, 1), 1);
    }

    @Says(in = "Terms", value = "REFUSALS, of several the first in this order: UNKNOWN")
    static void unknownFirst(Edges e) {
        FollowCab x = e.town("t2 0;c0 1;c1 1;");
        e.due("car: UNKNOWN, OUTSIDE", x.car(2, 5), UNKNOWN);
        e.due("where: UNKNOWN, OUTSIDE", x.where(2, 201), UNKNOWN);
        e.due("end: UNKNOWN, OUTSIDE", x.end(2, 2), UNKNOWN);
        e.due("cross: UNKNOWN, OUTSIDE", x.cross(2, 10), UNKNOWN);
        e.due("see: UNKNOWN, OUTSIDE", x.see(2, 31, 0), UNKNOWN);
        e.due("see: UNKNOWN, OUTSIDE", x.see(0, 31, 2), UNKNOWN);
        for (int i = 0; i < 15; i++) {
            x.see(0, 1, 0);
            x.write(0, 0);
        }
        e.due("see: UNKNOWN, OUTSIDE, FULL", x.see(2, 31, 0), UNKNOWN);
        e.due("see: UNKNOWN, FULL", x.see(0, 1, 2), UNKNOWN);
        e.due("write: UNKNOWN, FULL", x.write(2, 0), UNKNOWN);
        e.due("write: UNKNOWN, FULL", x.write(0, 2), UNKNOWN);
    }

    @Says(in = "Terms", value = "OUTSIDE (another number out of its bounds), NOT (not now, as told), FULL.")
    static void outsideAheadOfTheRest(Edges e) {
        FollowCab none = new FollowCab();
        e.due("step: OUTSIDE, NOT", none.step(61), OUTSIDE);
        e.due("drift: OUTSIDE, NOT", none.drift(0), OUTSIDE);
        FollowCab x = e.town("t2 0;c0 1;");
        Checks.feedAll(x, " ".repeat(240));
        e.due("feed: OUTSIDE, FULL", x.feed(-1), OUTSIDE);
        for (int i = 0; i < 6; i++) {
            x.see(0, 1, 0);
        }
        e.due("see: OUTSIDE, FULL", x.see(0, 0, 0), OUTSIDE);
        e.stepTo(x, 9060);
        e.due("step: OUTSIDE, FULL", x.step(0), OUTSIDE);
        e.due("drift: OUTSIDE, FULL", x.drift(61), OUTSIDE);
    }

    // ---- what is refused changes nothing

    @Says(in = "Terms", value = "What is refused changes nothing.")
    static void refusedWithoutATown(Edges e) {
        Consumer<FollowCab> ready = x -> x.seed(77);
        refused(e, "step(1)", ready, x -> x.step(1), NOT);
        refused(e, "drift(1)", ready, x -> x.drift(1), NOT);
        refused(e, "undo()", ready, FollowCab::undo, NOT);
        refused(e, "goBack(0)", ready, x -> x.goBack(0), NOT);
        refused(e, "goBack(1)", ready, x -> x.goBack(1), NOT);
        refused(e, "turn(0)", ready, x -> x.turn(0), UNKNOWN);
        refused(e, "see(0, 1, 0)", ready, x -> x.see(0, 1, 0), UNKNOWN);
        refused(e, "write(0, 0)", ready, x -> x.write(0, 0), UNKNOWN);
    }

    @Says(in = "Terms", value = "What is refused changes nothing.")
    static void refusedAsUnknown(Edges e) {
        Consumer<FollowCab> ready = EdgesOfRefusals::useMuch;
        refused(e, "car(3, 0)", ready, x -> x.car(3, 0), UNKNOWN);
        refused(e, "follow(0, 0)", ready, x -> x.follow(0, 0), UNKNOWN);
        refused(e, "follow(0, 3)", ready, x -> x.follow(0, 3), UNKNOWN);
        refused(e, "follow(-1, 0)", ready, x -> x.follow(-1, 0), UNKNOWN);
        refused(e, "letOff(3)", ready, x -> x.letOff(3), UNKNOWN);
        refused(e, "turn(3)", ready, x -> x.turn(3), UNKNOWN);
        refused(e, "where(3, 0)", ready, x -> x.where(3, 0), UNKNOWN);
        refused(e, "sees(1, 1)", ready, x -> x.sees(1, 1), UNKNOWN);
        refused(e, "end(3, 0)", ready, x -> x.end(3, 0), UNKNOWN);
        refused(e, "behind(3)", ready, x -> x.behind(3), UNKNOWN);
        refused(e, "cross(4, 1)", ready, x -> x.cross(4, 1), UNKNOWN);
        refused(e, "handed(0, 3)", ready, x -> x.handed(0, 3), UNKNOWN);
        refused(e, "see(3, 1, 0)", ready, x -> x.see(3, 1, 0), UNKNOWN);
        refused(e, "see(0, 1, 4)", ready, x -> x.see(0, 1, 4), UNKNOWN);
        refused(e, "whom(3)", ready, x -> x.whom(3), UNKNOWN);
        refused(e, "look(3)", ready, x -> x.look(3), UNKNOWN);
        refused(e, "write(3, 0)", ready, x -> x.write(3, 0), UNKNOWN);
        refused(e, "write(0, 4)", ready, x -> x.write(0, 4), UNKNOWN);
        refused(e, "keep(2)", ready, x -> x.keep(2), UNKNOWN);
        refused(e, "goBack(2)", ready, x -> x.goBack(2), UNKNOWN);
    }

    @Says(in = "Terms", value = "What is refused changes nothing.")
    static void refusedAsOutside(Edges e) {
        Consumer<FollowCab> ready = EdgesOfRefusals::useMuch;
        refused(e, "feed(-1)", ready, x -> x.feed(-1), OUTSIDE);
        refused(e, "feed(256)", ready, x -> x.feed(256), OUTSIDE);
        refused(e, "told(12)", ready, x -> x.told(12), OUTSIDE);
        refused(e, "car(0, 5)", ready, x -> x.car(0, 5), OUTSIDE);
        refused(e, "step(0)", ready, x -> x.step(0), OUTSIDE);
        refused(e, "step(61)", ready, x -> x.step(61), OUTSIDE);
        refused(e, "drift(0)", ready, x -> x.drift(0), OUTSIDE);
        refused(e, "drift(61)", ready, x -> x.drift(61), OUTSIDE);
        refused(e, "where(0, 201)", ready, x -> x.where(0, 201), OUTSIDE);
        refused(e, "end(0, 2)", ready, x -> x.end(0, 2), OUTSIDE);
        refused(e, "cross(0, 10)", ready, x -> x.cross(0, 10), OUTSIDE);
        refused(e, "meets(201)", ready, x -> x.meets(201), OUTSIDE);
        refused(e, "asked(61)", ready, x -> x.asked(61), OUTSIDE);
        refused(e, "see(0, 31, 0)", ready, x -> x.see(0, 31, 0), OUTSIDE);
        refused(e, "seed(-1)", ready, x -> x.seed(-1), OUTSIDE);
    }

    @Says(in = "Terms", value = "What is refused changes nothing.")
    static void refusedAsNotOrFull(Edges e) {
        Consumer<FollowCab> ready = EdgesOfRefusals::useMuch;
        refused(e, "letOff(1)", ready, x -> x.letOff(1), NOT);
        refused(e, "goBack(1)", ready, x -> x.goBack(1), NOT);
        Consumer<FollowCab> full = EdgesOfRefusals::fillAll;
        refused(e, "see(0, 1, 0)", full, x -> x.see(0, 1, 0), FULL);
        refused(e, "write(0, 1)", full, x -> x.write(0, 1), FULL);
        Consumer<FollowCab> late = x -> stepPast9000(x);
        refused(e, "step(1)", late, x -> x.step(1), FULL);
        refused(e, "drift(1)", late, x -> x.drift(1), FULL);
        refused(e, "undo()", late, FollowCab::undo, NOT);
    }

    @Says(in = "Terms", value = "What is refused changes nothing.")
    static void refusedLetters(Edges e) {
        FollowCab x = new FollowCab();
        Checks.feedAll(x, " ".repeat(234) + "t1 00;");
        e.due("one more", x.feed('x'), FULL);
        e.due("no letter", x.feed(256), OUTSIDE);
        e.due("town()", x.town(), 0);
        e.due("corners", x.told(0), 1);
    }

    @Says(in = "3", value = "TRIED from now; nothing changes by it.")
    static void triedChangesNothing(Edges e) {
        tried(e, "told", x -> x.told(0) + x.told(5) + x.told(7) + x.told(8));
        tried(e, "car", x -> x.car(0, 0) + x.car(1, 3));
        tried(e, "fault", FollowCab::fault);
        tried(e, "where", x -> x.where(0, 200));
        tried(e, "sees", x -> x.sees(0, 1));
        tried(e, "rings", x -> x.rings(NONE) + x.rings(0));
        tried(e, "end", x -> x.end(2, 0) + x.end(2, 1));
        tried(e, "behind", x -> x.behind(0));
        tried(e, "stop", FollowCab::stop);
        tried(e, "cross", x -> x.cross(0, 9));
        tried(e, "handed", x -> x.handed(0, 1));
        tried(e, "meets", x -> x.meets(200));
        tried(e, "asked", x -> x.asked(60));
        tried(e, "whom", x -> x.whom(0));
        tried(e, "look", x -> x.look(0));
        tried(e, "judge", FollowCab::judge);
    }

    private static void refused(Edges e, String call, Consumer<FollowCab> ready, ToIntFunction<FollowCab> refusedCall, int refusal) {
        FollowCab asked = new FollowCab();
        ready.accept(asked);
        e.due(call, refusedCall.applyAsInt(asked), refusal);
        FollowCab other = new FollowCab();
        ready.accept(other);
        alike(e, call, asked, other);
    }

    private static void tried(Edges e, String call, ToIntFunction<FollowCab> triedCall) {
        FollowCab asked = new FollowCab();
        useMuch(asked);
        int answer = triedCall.applyAsInt(asked);
        e.due(call + ", asked again", triedCall.applyAsInt(asked), answer);
        FollowCab other = new FollowCab();
        useMuch(other);
        alike(e, call, asked, other);
    }

    private static void alike(Edges e, String call, FollowCab asked, FollowCab other) {
        e.due("all behind " + call, Twins.firstUnlike(Twins.everything(asked), Twins.everything(other)), NONE);
        e.due("the text behind " + call, Twins.firstUnlike(Twins.text(asked, " 5;c1 2;"), Twins.text(other, " 5;c1 2;")), NONE);
    }

    /** Something of all that an object can hold, image 1 left out; a town's fault, and a text begun. */
    private static void useMuch(FollowCab x) {
        Checks.feedAll(x, THREE);
        x.town();
        Checks.feedAll(x, "tx");
        x.town();
        x.step(3);
        x.turn(1);
        x.seed(5);
        x.keep(0);
        x.seed(77);
        x.follow(0, 1);
        x.drift(2);
        x.letOff(2);
        x.follow(2, 0);
        x.letOff(0);
        x.letOff(1);
        x.see(0, 1, 1);
        x.see(1, 30, 2);
        x.write(0, 2);
        x.write(1, 1);
        Checks.feedAll(x, "t2");
    }

    private static void fillAll(FollowCab x) {
        useMuch(x);
        for (int i = 0; i < 15; i++) {
            x.see(1, 1 + i, 0);
            x.write(1, 3);
        }
    }

    private static void stepPast9000(FollowCab x) {
        Checks.feedAll(x, "t2 9;c0 21;");
        x.town();
        for (int i = 0; i < 151; i++) {
            x.step(60);
        }
        x.keep(0);
        Checks.feedAll(x, "t2");
    }
}
