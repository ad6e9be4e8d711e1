import java.util.ArrayList;
import java.util.List;

/** All that can be asked of an object, so that two that must be alike are held against one another. */
final class Twins {
    private Twins() {
    }

    /**
     * What it is now, what it is when all is undone one by one, and in each image. The text it has been fed is left out
     * of it, as is the place of the fault, which a town() with a fault changes.
     */
    static List<Integer> everything(FollowCab x) {
        List<Integer> all = new ArrayList<>();
        addState(x, all);
        addSeen(x, all);
        for (int left = x.told(11); left > 0; left--) {
            all.add(x.undo());
            addState(x, all);
        }
        all.add(x.undo());
        for (int image = 0; image < 2; image++) {
            all.add(x.goBack(image));
            addState(x, all);
            addSeed(x, all);
        }
        return all;
    }

    /** The text that has been fed, by what becomes of it with an end that makes it whole or spoils it. */
    static List<Integer> text(FollowCab x, String end) {
        List<Integer> all = new ArrayList<>();
        all.add(x.fault());
        all.add(x.told(3));
        Checks.feedAll(x, end);
        all.add(x.town());
        all.add(x.fault());
        addState(x, all);
        return all;
    }

    static int firstUnlike(List<Integer> some, List<Integer> others) {
        for (int i = 0; i < Math.max(some.size(), others.size()); i++) {
            if (i >= some.size() || i >= others.size() || !some.get(i).equals(others.get(i))) {
                return i;
            }
        }
        return -1;
    }

    private static void addState(FollowCab x, List<Integer> all) {
        for (int what = 0; what <= 11; what++) {
            if (what != 3) {
                all.add(x.told(what));
            }
        }
        for (int c = 0; c < x.told(2); c++) {
            for (int what = 0; what <= 4; what++) {
                all.add(x.car(c, what));
            }
        }
    }

    private static void addSeen(FollowCab x, List<Integer> all) {
        for (int c = 0; c < x.told(2); c++) {
            all.add(x.whom(c));
            all.add(x.look(c));
        }
        all.add(x.judge());
        addSeed(x, all);
    }

    private static void addSeed(FollowCab x, List<Integer> all) {
        int seed = x.seed(0);
        x.seed(seed);
        all.add(seed);
    }
}
