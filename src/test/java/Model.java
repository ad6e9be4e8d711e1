import java.util.ArrayDeque;
import java.util.ArrayList;
import java.util.Deque;
import java.util.List;

/**
 * The document once more, plainly and by other means than the class: positions by recursion over time,
 * rings by who reaches whom, the fewest stops by trying every set, faults by collecting all and taking the first.
 */
final class Model {
    static final int NONE = -1, UNKNOWN = -1000000001, OUTSIDE = -1000000002, NOT = -1000000003, FULL = -1000000004;

    static final class Cab {
        int corner, follows = NONE, next, went;
        String round;

        Cab copy() {
            Cab other = new Cab();
            other.corner = corner;
            other.follows = follows;
            other.next = next;
            other.went = went;
            other.round = round;
            return other;
        }
    }

    static final class State {
        List<Cab> cabs = new ArrayList<>();
        int steps;

        State copy() {
            State other = new State();
            for (Cab cab : cabs) {
                other.cabs.add(cab.copy());
            }
            other.steps = steps;
            return other;
        }
    }

    private final StringBuilder text = new StringBuilder();
    private State state = new State();
    private int corners, odds, faultPlace = NONE;
    private long seed;
    private final Deque<State> undo = new ArrayDeque<>();
    private final State[] images = new State[2];
    private final long[] imageSeeds = new long[2];
    private final List<int[]> seen = new ArrayList<>();
    private final List<int[]> book = new ArrayList<>();

    // ---- the town

    int feed(int letter) {
        if (letter < 0 || letter > 255) return OUTSIDE;
        if (text.length() == 240) return FULL;
        text.append((char) letter);
        return text.length();
    }

    int town() {
        String all = text.toString();
        text.setLength(0);
        ModelText read = new ModelText(all);
        faultPlace = read.place;
        if (read.number != 0) return -10 - read.number;
        corners = read.corners;
        odds = read.odds;
        state = read.state;
        seen.clear();
        book.clear();
        undo.clear();
        images[0] = images[1] = null;
        return count();
    }

    int fault() { return faultPlace; }

    int told(int what) {
        return switch (what) {
            case 0 -> corners;
            case 1 -> odds;
            case 2 -> count();
            case 3 -> text.length();
            case 4 -> state.steps;
            case 5 -> {
                int set = 0;
                for (Cab cab : state.cabs) set |= 1 << cab.corner;
                yield set;
            }
            case 6 -> {
                int set = 0;
                for (int c = 0; c < count(); c++) if (cab(c).follows >= 0) set += 1 << c;
                yield set;
            }
            case 7 -> ringSets(state).size();
            case 8 -> head();
            case 9 -> seen.size();
            case 10 -> book.size();
            case 11 -> undo.size();
            default -> OUTSIDE;
        };
    }

    int car(int c, int what) {
        if (no(c)) return UNKNOWN;
        return switch (what) {
            case 0 -> cab(c).corner;
            case 1 -> cab(c).follows;
            case 2 -> Integer.parseInt(cab(c).round);
            case 3 -> cab(c).next;
            case 4 -> cab(c).went;
            default -> OUTSIDE;
        };
    }

    // ---- what is done

    int step(int n) {
        int refused = refused(n);
        if (refused != 0) return refused;
        done();
        for (int i = 0; i < n; i++) one();
        return state.steps;
    }

    int follow(int c, int d) {
        if (no(c) || no(d) || c == d) return UNKNOWN;
        done();
        int was = cab(c).follows;
        cab(c).follows = d;
        return was;
    }

    int letOff(int c) {
        if (no(c)) return UNKNOWN;
        int was = cab(c).follows;
        if (was == NONE) return NOT;
        done();
        cab(c).follows = NONE;
        return was;
    }

    int turn(int c) {
        if (no(c)) return UNKNOWN;
        done();
        cab(c).round = new StringBuilder(cab(c).round).reverse().toString();
        cab(c).next = 0;
        return Integer.parseInt(cab(c).round);
    }

    int drift(int n) {
        int refused = refused(n);
        if (refused != 0) return refused;
        done();
        for (int i = 0; i < n; i++) {
            if (count() > 0) {
                int first = draw(count());
                if (draw(100) < odds) {
                    int second = draw(count());
                    if (second != first) cab(first).follows = second;
                }
            }
            one();
        }
        return state.steps;
    }

    int undo() {
        if (undo.isEmpty()) return NOT;
        state = undo.removeLast();
        return undo.size();
    }

    // ---- tried

    int where(int c, int n) {
        if (no(c)) return UNKNOWN;
        if (n < 0 || n > 200) return OUTSIDE;
        return at(c, n);
    }

    int sees(int c, int d) {
        if (no(c) || no(d) || c == d) return UNKNOWN;
        for (int n = 0; n <= 200; n++) if (at(c, n) == at(d, n)) return n;
        return NONE;
    }

    int rings(int i) {
        List<Integer> sets = ringSets(state);
        if (i == NONE) return sets.size();
        return i >= 0 && i < sets.size() ? sets.get(i) : NONE;
    }

    int end(int c, int what) {
        if (no(c)) return UNKNOWN;
        if (what != 0 && what != 1) return OUTSIDE;
        int at = c, times = 0;
        boolean[][] reach = reach(state);
        while (!reach[at][at] && cab(at).follows != NONE) {
            at = cab(at).follows;
            times++;
        }
        if (what == 1) return times;
        for (int d = 0; d < count(); d++) if (reach[at][d] && reach[d][at]) return d;
        return at;
    }

    int behind(int c) {
        if (no(c)) return UNKNOWN;
        return behindSet(c);
    }

    int stop() {
        int best = -1;
        for (int set = 0; set < 1 << count(); set++) {
            State other = state.copy();
            for (int c = 0; c < count(); c++) if ((set >> c & 1) == 1) other.cabs.get(c).follows = NONE;
            if (ringSets(other).isEmpty() && (best < 0 || Integer.bitCount(set) < Integer.bitCount(best))) best = set;
        }
        return best;
    }

    int cross(int j, int w) {
        if (j < 0 || j >= corners) return UNKNOWN;
        if (w < 1 || w > 9) return OUTSIDE;
        for (int n = 0; n <= 200; n++) {
            boolean free = true;
            for (int k = n; k < n + w; k++) for (int c = 0; c < count(); c++) free &= at(c, k) != j;
            if (free) return n;
        }
        return NONE;
    }

    int handed(int c, int d) {
        if (no(c) || no(d) || c == d) return UNKNOWN;
        boolean[] has = new boolean[count()];
        has[c] = true;
        for (int n = 0; n <= 200; n++) {
            for (int again = 0; again < 8; again++)
                for (int a = 0; a < count(); a++)
                    for (int b = 0; b < count(); b++)
                        if (has[a] && at(a, n) == at(b, n)) has[b] = true;
            if (has[d]) return n;
        }
        return NONE;
    }

    int meets(int n) {
        if (n < 0 || n > 200) return OUTSIDE;
        int most = 0;
        for (int a = 0; a < count(); a++) {
            int here = 0;
            for (int b = 0; b < count(); b++) if (at(a, n) == at(b, n)) here++;
            most = Math.max(most, here);
        }
        return most;
    }

    int asked(int n) {
        if (n < 0 || n > 60) return OUTSIDE;
        long left = 1000000000L;
        for (int i = 0; i < n; i++) left = left * (100 - odds) / 100;
        return (int) left;
    }

    // ---- what is seen

    int see(int c, int n, int j) {
        if (no(c) || j < 0 || j >= corners) return UNKNOWN;
        if (n < 1 || n > 30) return OUTSIDE;
        if (seen.size() == 6) return FULL;
        seen.add(new int[] {c, n, j});
        return seen.size();
    }

    int whom(int c) {
        if (no(c)) return UNKNOWN;
        int set = 0;
        for (int d = 0; d < count(); d++) {
            if (d == c) continue;
            boolean so = true;
            for (int[] one : seen) if (one[0] == c) so &= atBy(c, d, one[1]) == one[2];
            if (so) set |= 1 << d;
        }
        return set;
    }

    int look(int c) {
        if (no(c)) return UNKNOWN;
        int set = whom(c), best = NONE, least = Integer.bitCount(set);
        for (int n = 1; n <= 30; n++) {
            int[] parts = new int[9];
            for (int d = 0; d < count(); d++) if ((set >> d & 1) == 1) parts[atBy(c, d, n)]++;
            int greatest = 0;
            for (int part : parts) greatest = Math.max(greatest, part);
            if (greatest < least) {
                least = greatest;
                best = n;
            }
        }
        return best;
    }

    int write(int c, int j) {
        if (no(c) || j < 0 || j >= corners) return UNKNOWN;
        if (book.size() == 15) return FULL;
        book.add(new int[] {c, j});
        return book.size();
    }

    int tear() {
        int both = seen.size() + book.size();
        seen.clear();
        book.clear();
        return both;
    }

    int judge() {
        for (int[] entry : book) if (cab(entry[0]).corner != entry[1]) return book.indexOf(entry);
        return NONE;
    }

    // ---- draws, images

    int seed(int v) {
        if (v < 0) return OUTSIDE;
        int was = (int) seed;
        seed = v;
        return was;
    }

    int keep(int i) {
        if (i != 0 && i != 1) return UNKNOWN;
        images[i] = state.copy();
        imageSeeds[i] = seed;
        undo.clear();
        return 1;
    }

    int goBack(int i) {
        if (i != 0 && i != 1) return UNKNOWN;
        if (images[i] == null) return NOT;
        state = images[i].copy();
        seed = imageSeeds[i];
        undo.clear();
        return 1;
    }

    /** Where a car will be seen if it follows another one; else what is given. */
    int seenBy(int c, int d, int n, int otherwise) {
        return no(c) || no(d) || c == d || n < 1 || n > 30 ? otherwise : atBy(c, d, n);
    }

    private int count() { return state.cabs.size(); }

    private Cab cab(int c) { return state.cabs.get(c); }

    private boolean no(int c) { return c < 0 || c >= count(); }

    private int refused(int n) {
        if (n < 1 || n > 60) return OUTSIDE;
        if (corners == 0) return NOT;
        return state.steps > 9000 ? FULL : 0;
    }

    private void done() {
        undo.addLast(state.copy());
        if (undo.size() > 20) undo.removeFirst();
    }

    private void one() {
        State was = state.copy();
        for (int c = 0; c < count(); c++) {
            Cab cab = cab(c);
            if (cab.follows >= 0) {
                cab.corner = was.cabs.get(cab.follows).corner;
            } else {
                cab.corner = cab.round.charAt(cab.next) - '1';
                cab.next = (cab.next + 1) % cab.round.length();
            }
            if (cab.corner != was.cabs.get(c).corner) cab.went++;
        }
        state.steps++;
    }

    private int draw(int n) {
        seed = (seed * 1103515245L + 12345L) % 2147483648L;
        return (int) (seed / 65536 % n);
    }

    /** Where a car is behind n steps: a follower is where the one ahead was one step sooner. */
    private int at(int c, int n) {
        if (n == 0) return cab(c).corner;
        if (cab(c).follows >= 0) return at(cab(c).follows, n - 1);
        String round = cab(c).round;
        return round.charAt((cab(c).next + n - 1) % round.length()) - '1';
    }

    private int atBy(int c, int d, int n) {
        int was = cab(c).follows;
        cab(c).follows = d;
        int at = at(c, n);
        cab(c).follows = was;
        return at;
    }

    private boolean[][] reach(State of) {
        int size = of.cabs.size();
        boolean[][] reach = new boolean[size][size];
        for (int c = 0; c < size; c++) if (of.cabs.get(c).follows >= 0) reach[c][of.cabs.get(c).follows] = true;
        for (int k = 0; k < size; k++)
            for (int a = 0; a < size; a++)
                for (int b = 0; b < size; b++)
                    if (reach[a][k] && reach[k][b]) reach[a][b] = true;
        return reach;
    }

    private List<Integer> ringSets(State of) {
        boolean[][] reach = reach(of);
        List<Integer> sets = new ArrayList<>();
        for (int c = 0; c < reach.length; c++) {
            int set = 0;
            for (int d = 0; d < reach.length; d++) if (reach[c][d] && reach[d][c]) set |= 1 << d;
            if (set != 0 && !sets.contains(set)) sets.add(set);
        }
        return sets;
    }

    private int behindSet(int c) {
        boolean[][] reach = reach(state);
        int set = 0;
        for (int d = 0; d < count(); d++) if (reach[d][c]) set |= 1 << d;
        return set;
    }

    private int head() {
        int set = 0;
        for (int c = 0; c < count(); c++)
            for (int d = 0; d < count(); d++)
                if (c != d && cab(c).corner == cab(d).corner && (behindSet(c) >> d & 1) == 1) set |= 1 << c;
        return set;
    }
}
