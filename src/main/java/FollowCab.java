/**
 * A town of cabs that follow one another: told in a text, gone through step by step, tried ahead,
 * undone, and guessed at from where cars were seen.
 *
 * Every row is made in the constructor and used again, so that no later call makes an object.
 */
public final class FollowCab {
    public static final int NONE = -1, UNKNOWN = -1000000001, OUTSIDE = -1000000002, NOT = -1000000003, FULL = -1000000004;

    private static final int MOST_LETTERS = 240;
    private static final int GREATEST_LETTER = 255;
    private static final int MOST_CORNERS = 9;
    private static final int MOST_CARS = 8;
    private static final int MOST_FIGURES = 6;
    private static final int GREATEST_NUMBER = 999999;
    private static final int HUNDRED = 100;
    private static final int MOST_STEPS_AT_ONCE = 60;
    private static final int STEPS_BEFORE_FULL = 9000;
    private static final int FARTHEST_TRIED = 200;
    private static final int LONGEST_CROSSING = 9;
    private static final int MOST_DRIVERS = 60;
    private static final int FARTHEST_SEEN = 30;
    private static final int MOST_SEEN = 6;
    private static final int MOST_IN_BOOK = 15;
    private static final int MOST_UNDONE = 20;
    private static final int MOST_IMAGES = 2;
    private static final int BILLION = 1000000000;
    private static final int GREATEST_SEED = 2147483647;
    private static final int FAULT_BASE = -10;

    private static final int CANNOT_STAND = 1;
    private static final int NO_SUCH_NUMBER = 2;
    private static final int ONE_TOO_MANY = 3;
    private static final int CANNOT_FOLLOW = 4;

    private static final int[] TENS = {1, 10, 100, 1000, 10000, 100000};

    private final Text text = new Text();
    private final Reader reader = new Reader(text);
    private final Scene now = new Scene();
    private final Scene tried = new Scene();
    private final History history = new History();
    private final Images images = new Images();
    private final Entries sightings = new Entries(MOST_SEEN);
    private final Entries book = new Entries(MOST_IN_BOOK);
    private final Guess guess = new Guess();
    private final Draws draws = new Draws();
    private int corners = 0;
    private int odds = 0;
    private int faultPlace = NONE;

    public FollowCab() {
    }

    // ---- the town

    public int feed(int letter) {
        if (letter < 0 || letter > GREATEST_LETTER) {
            return OUTSIDE;
        }
        if (text.length >= MOST_LETTERS) {
            return FULL;
        }
        text.add(letter);
        return text.length;
    }

    public int town() {
        reader.readAll();
        text.length = 0;
        faultPlace = reader.faultPlace;
        if (reader.faultNumber != 0) {
            return FAULT_BASE - reader.faultNumber;
        }
        corners = reader.corners;
        odds = reader.odds;
        now.copyFrom(reader.scene);
        sightings.count = 0;
        book.count = 0;
        images.forget();
        history.forget();
        return now.cars;
    }

    public int fault() {
        return faultPlace;
    }

    public int told(int what) {
        switch (what) {
            case 0: return corners;
            case 1: return odds;
            case 2: return now.cars;
            case 3: return text.length;
            case 4: return now.steps;
            case 5: return now.takenCorners();
            case 6: return now.allFollowers();
            case 7: return now.ringCount();
            case 8: return now.heads();
            case 9: return sightings.count;
            case 10: return book.count;
            case 11: return history.count;
            default: return OUTSIDE;
        }
    }

    public int car(int c, int what) {
        if (!isCar(c)) {
            return UNKNOWN;
        }
        switch (what) {
            case 0: return now.corner[c];
            case 1: return now.leader[c];
            case 2: return now.round[c];
            case 3: return now.next[c];
            case 4: return now.went[c];
            default: return OUTSIDE;
        }
    }

    // ---- what is done

    public int step(int n) {
        int refusal = refusalOfSteps(n);
        if (refusal != 0) {
            return refusal;
        }
        history.push(now);
        now.moveTimes(n);
        return now.steps;
    }

    public int follow(int c, int d) {
        if (!areTwoCars(c, d)) {
            return UNKNOWN;
        }
        history.push(now);
        int before = now.leader[c];
        now.leader[c] = d;
        return before;
    }

    public int letOff(int c) {
        if (!isCar(c)) {
            return UNKNOWN;
        }
        int before = now.leader[c];
        if (before == NONE) {
            return NOT;
        }
        history.push(now);
        now.leader[c] = NONE;
        return before;
    }

    public int turn(int c) {
        if (!isCar(c)) {
            return UNKNOWN;
        }
        history.push(now);
        now.reverseRound(c);
        return now.round[c];
    }

    public int drift(int n) {
        int refusal = refusalOfSteps(n);
        if (refusal != 0) {
            return refusal;
        }
        history.push(now);
        for (int i = 0; i < n; i++) {
            askByDraws();
            now.move();
        }
        return now.steps;
    }

    public int undo() {
        if (history.count == 0) {
            return NOT;
        }
        history.pop(now);
        return history.count;
    }

    // ---- tried

    public int where(int c, int n) {
        if (!isCar(c)) {
            return UNKNOWN;
        }
        if (n < 0 || n > FARTHEST_TRIED) {
            return OUTSIDE;
        }
        tried.copyFrom(now);
        tried.moveTimes(n);
        return tried.corner[c];
    }

    public int sees(int c, int d) {
        if (!areTwoCars(c, d)) {
            return UNKNOWN;
        }
        tried.copyFrom(now);
        for (int n = 0; n <= FARTHEST_TRIED; n++) {
            if (tried.corner[c] == tried.corner[d]) {
                return n;
            }
            tried.move();
        }
        return NONE;
    }

    public int rings(int i) {
        return i == NONE ? now.ringCount() : now.ringNumber(i);
    }

    public int end(int c, int what) {
        if (!isCar(c)) {
            return UNKNOWN;
        }
        switch (what) {
            case 0: return now.endOf(c);
            case 1: return now.timesToEnd(c);
            default: return OUTSIDE;
        }
    }

    public int behind(int c) {
        return isCar(c) ? now.trailOf(c) : UNKNOWN;
    }

    public int stop() {
        return now.leastOfRings();
    }

    public int cross(int j, int w) {
        if (!isCorner(j)) {
            return UNKNOWN;
        }
        if (w < 1 || w > LONGEST_CROSSING) {
            return OUTSIDE;
        }
        tried.copyFrom(now);
        int free = 0;
        for (int n = 0; n < FARTHEST_TRIED + w; n++) {
            free = tried.carsAt(j) == 0 ? free + 1 : 0;
            if (free == w) {
                return n - w + 1;
            }
            tried.move();
        }
        return NONE;
    }

    public int handed(int c, int d) {
        if (!areTwoCars(c, d)) {
            return UNKNOWN;
        }
        tried.copyFrom(now);
        int holders = 1 << c;
        for (int n = 0; n <= FARTHEST_TRIED; n++) {
            holders = tried.allBeside(holders);
            if (isIn(holders, d)) {
                return n;
            }
            tried.move();
        }
        return NONE;
    }

    public int meets(int n) {
        if (n < 0 || n > FARTHEST_TRIED) {
            return OUTSIDE;
        }
        tried.copyFrom(now);
        tried.moveTimes(n);
        int fullest = 0;
        for (int j = 0; j < corners; j++) {
            fullest = Math.max(fullest, tried.carsAt(j));
        }
        return fullest;
    }

    public int asked(int n) {
        if (n < 0 || n > MOST_DRIVERS) {
            return OUTSIDE;
        }
        long left = BILLION;
        for (int i = 0; i < n; i++) {
            left = left * (HUNDRED - odds) / HUNDRED;
        }
        return (int) left;
    }

    // ---- what is seen

    public int see(int c, int n, int j) {
        if (!isCar(c) || !isCorner(j)) {
            return UNKNOWN;
        }
        if (n < 1 || n > FARTHEST_SEEN) {
            return OUTSIDE;
        }
        return sightings.add(c, n, j);
    }

    public int whom(int c) {
        if (!isCar(c)) {
            return UNKNOWN;
        }
        guess.weigh(now, c, sightings);
        return guess.fitting;
    }

    public int look(int c) {
        if (!isCar(c)) {
            return UNKNOWN;
        }
        guess.weigh(now, c, sightings);
        return guess.bestLook();
    }

    public int write(int c, int j) {
        if (!isCar(c) || !isCorner(j)) {
            return UNKNOWN;
        }
        return book.add(c, 0, j);
    }

    public int tear() {
        int both = sightings.count + book.count;
        sightings.count = 0;
        book.count = 0;
        return both;
    }

    public int judge() {
        for (int i = 0; i < book.count; i++) {
            if (now.corner[book.car[i]] != book.corner[i]) {
                return i;
            }
        }
        return NONE;
    }

    // ---- draws, images

    public int seed(int v) {
        if (v < 0) {
            return OUTSIDE;
        }
        int before = draws.value;
        draws.value = v;
        return before;
    }

    public int keep(int i) {
        if (!isImage(i)) {
            return UNKNOWN;
        }
        images.put(i, now, draws.value);
        history.forget();
        return 1;
    }

    public int goBack(int i) {
        if (!isImage(i)) {
            return UNKNOWN;
        }
        if (!images.kept[i]) {
            return NOT;
        }
        now.copyFrom(images.scene[i]);
        draws.value = images.drawValue[i];
        history.forget();
        return 1;
    }

    private boolean isCar(int c) {
        return c >= 0 && c < now.cars;
    }

    private boolean areTwoCars(int c, int d) {
        return isCar(c) && isCar(d) && c != d;
    }

    private boolean isCorner(int j) {
        return j >= 0 && j < corners;
    }

    private static boolean isImage(int i) {
        return i >= 0 && i < MOST_IMAGES;
    }

    private static boolean isIn(int set, int k) {
        return (set >> k & 1) != 0;
    }

    private static int leastOf(int set) {
        for (int c = 0; c < MOST_CARS; c++) {
            if (isIn(set, c)) {
                return c;
            }
        }
        return NONE;
    }

    /** What step() and drift() refuse alike; 0: nothing. */
    private int refusalOfSteps(int n) {
        if (n < 1 || n > MOST_STEPS_AT_ONCE) {
            return OUTSIDE;
        }
        if (corners == 0) {
            return NOT;
        }
        return now.steps > STEPS_BEFORE_FULL ? FULL : 0;
    }

    private void askByDraws() {
        if (now.cars == 0) {
            return;
        }
        int asker = draws.drawOf(now.cars);
        if (draws.drawOf(HUNDRED) >= odds) {
            return;
        }
        int other = draws.drawOf(now.cars);
        if (asker != other) {
            now.leader[asker] = other;
        }
    }

    /** THE TEXT, as far as it has been fed. */
    private static final class Text {
        final int[] letter = new int[MOST_LETTERS];
        int length = 0;

        void add(int value) {
            if (length < MOST_LETTERS) {
                letter[length] = value;
                length++;
            }
        }

        /** The letter at a place; NONE, which is no letter, at the end. */
        int at(int place) {
            return place >= 0 && place < length ? letter[place] : NONE;
        }
    }

    /** All of section 2: what is undone and what an image keeps. */
    private static final class Scene {
        int cars = 0;
        int steps = 0;
        final int[] corner = new int[MOST_CARS];
        final int[] leader = new int[MOST_CARS];
        final int[] round = new int[MOST_CARS];
        final int[] next = new int[MOST_CARS];
        final int[] went = new int[MOST_CARS];
        private final int[] ahead = new int[MOST_CARS];

        void copyFrom(Scene other) {
            cars = other.cars;
            steps = other.steps;
            System.arraycopy(other.corner, 0, corner, 0, MOST_CARS);
            System.arraycopy(other.leader, 0, leader, 0, MOST_CARS);
            System.arraycopy(other.round, 0, round, 0, MOST_CARS);
            System.arraycopy(other.next, 0, next, 0, MOST_CARS);
            System.arraycopy(other.went, 0, went, 0, MOST_CARS);
        }

        void clear() {
            cars = 0;
            steps = 0;
        }

        void addCar(int atCorner, int itsRound) {
            if (cars < MOST_CARS) {
                corner[cars] = atCorner;
                leader[cars] = NONE;
                round[cars] = itsRound;
                next[cars] = 0;
                went[cars] = 0;
                cars++;
            }
        }

        void moveTimes(int n) {
            for (int i = 0; i < n; i++) {
                move();
            }
        }

        /** One STEP, all at once: hence followers look at the corners ahead of it. */
        void move() {
            System.arraycopy(corner, 0, ahead, 0, MOST_CARS);
            for (int c = 0; c < cars; c++) {
                corner[c] = leader[c] == NONE ? goRound(c) : ahead[leader[c]];
                if (corner[c] != ahead[c]) {
                    went[c]++;
                }
            }
            steps++;
        }

        private int goRound(int c) {
            int length = Figures.count(round[c]);
            int figure = Figures.at(round[c], next[c]);
            next[c] = next[c] + 1 < length ? next[c] + 1 : 0;
            return figure - 1;
        }

        void reverseRound(int c) {
            round[c] = Figures.reversed(round[c]);
            next[c] = 0;
        }

        int carsAt(int j) {
            int count = 0;
            for (int c = 0; c < cars; c++) {
                if (corner[c] == j) {
                    count++;
                }
            }
            return count;
        }

        int takenCorners() {
            int set = 0;
            for (int c = 0; c < cars; c++) {
                set |= 1 << corner[c];
            }
            return set;
        }

        /** All cars that are at one corner with one of a set, that set's own too. */
        int allBeside(int set) {
            int taken = 0;
            for (int c = 0; c < cars; c++) {
                if (isIn(set, c)) {
                    taken |= 1 << corner[c];
                }
            }
            int beside = 0;
            for (int c = 0; c < cars; c++) {
                if (isIn(taken, corner[c])) {
                    beside |= 1 << c;
                }
            }
            return beside;
        }

        int allFollowers() {
            int set = 0;
            for (int c = 0; c < cars; c++) {
                if (leader[c] != NONE) {
                    set |= 1 << c;
                }
            }
            return set;
        }

        /** All cars to which a car comes from one to whom it follows: itself only in a ring. */
        private int leadersOf(int c) {
            int set = 0;
            int at = leader[c];
            for (int i = 0; i < cars && at != NONE; i++) {
                set |= 1 << at;
                at = leader[at];
            }
            return set;
        }

        int trailOf(int c) {
            int set = 0;
            for (int d = 0; d < cars; d++) {
                if (isIn(leadersOf(d), c)) {
                    set |= 1 << d;
                }
            }
            return set;
        }

        /** The ring that a car is of; 0: it is of none. */
        private int ringOf(int c) {
            int leaders = leadersOf(c);
            return isIn(leaders, c) ? leaders : 0;
        }

        /** No ring is left when each is broken once; the least car of each makes the least set. */
        int leastOfRings() {
            int set = 0;
            for (int c = 0; c < cars; c++) {
                int ring = ringOf(c);
                set |= ring & -ring;
            }
            return set;
        }

        int ringCount() {
            return Integer.bitCount(leastOfRings());
        }

        int ringNumber(int i) {
            int least = leastOfRings();
            int passed = 0;
            for (int c = 0; c < cars; c++) {
                if (isIn(least, c)) {
                    if (passed == i) {
                        return ringOf(c);
                    }
                    passed++;
                }
            }
            return NONE;
        }

        private boolean isAnEnd(int c) {
            return leader[c] == NONE || ringOf(c) != 0;
        }

        int timesToEnd(int c) {
            int times = 0;
            int at = c;
            while (times < MOST_CARS && !isAnEnd(at)) {
                at = leader[at];
                times++;
            }
            return times;
        }

        int endOf(int c) {
            int at = c;
            for (int i = timesToEnd(c); i > 0; i--) {
                at = leader[at];
            }
            int ring = ringOf(at);
            return ring == 0 ? at : leastOf(ring);
        }

        int heads() {
            int set = 0;
            for (int c = 0; c < cars; c++) {
                int others = allBeside(1 << c) & ~(1 << c);
                if ((others & trailOf(c)) != 0) {
                    set |= 1 << c;
                }
            }
            return set;
        }
    }

    /** A ROUND is held as the number that its figures write. */
    private static final class Figures {
        static int count(int number) {
            int figures = 1;
            while (figures < MOST_FIGURES && number >= TENS[figures]) {
                figures++;
            }
            return figures;
        }

        /** The figure at a place, from the first one on; 0 where there is none. */
        static int at(int number, int place) {
            int right = count(number) - 1 - place;
            return right >= 0 && right < MOST_FIGURES ? number / TENS[right] % 10 : 0;
        }

        static int reversed(int number) {
            int other = 0;
            for (int place = count(number) - 1; place >= 0; place--) {
                other = other * 10 + at(number, place);
            }
            return other;
        }

        /** Whether each figure is one of 1 .. most. */
        static boolean areAllUpTo(int number, int most) {
            for (int place = count(number) - 1; place >= 0; place--) {
                int figure = at(number, place);
                if (figure < 1 || figure > most) {
                    return false;
                }
            }
            return true;
        }
    }

    /** Reads a text into a scene of its own, so that a fault leaves the town as it was. */
    private static final class Reader {
        final Scene scene = new Scene();
        int corners = 0;
        int odds = 0;
        int faultNumber = 0;
        int faultPlace = NONE;
        private final Text text;
        private int place = 0;
        private int numberPlace = 0;

        Reader(Text source) {
            text = source;
        }

        void readAll() {
            scene.clear();
            corners = 0;
            odds = 0;
            faultNumber = 0;
            faultPlace = NONE;
            place = 0;
            skipBlanks();
            for (int i = 0; i <= MOST_LETTERS && faultNumber == 0 && place < text.length; i++) {
                readClause();
                skipBlanks();
            }
        }

        private int letter() {
            return text.at(place);
        }

        private boolean isFigure() {
            int letter = letter();
            return letter >= '0' && letter <= '9';
        }

        private void skipBlanks() {
            for (int i = 0; i < MOST_LETTERS && letter() == ' '; i++) {
                place++;
            }
        }

        /** Clauses are read from left to right, so the first fault found is the first there is. */
        private void blame(int number, int at) {
            if (faultNumber == 0) {
                faultNumber = number;
                faultPlace = at;
            }
        }

        private void readClause() {
            int word = letter();
            if (word != 't' && (word != 'c' && word != 'f' || corners == 0)) {
                blame(CANNOT_STAND, place);
                return;
            }
            if (word == 't' && corners != 0 || word == 'c' && scene.cars >= MOST_CARS) {
                blame(ONE_TOO_MANY, place);
                return;
            }
            place++;
            if (word == 't') {
                readTown();
            } else if (word == 'c') {
                readCar();
            } else {
                readFollowing();
            }
            readSemicolon();
        }

        private void readTown() {
            int count = readNumber(1, MOST_CORNERS);
            int percent = readNumber(0, HUNDRED);
            if (faultNumber == 0) {
                corners = count;
                odds = percent;
            }
        }

        private void readCar() {
            int at = readNumber(0, corners - 1);
            int round = readNumber(1, GREATEST_NUMBER);
            if (faultNumber == 0 && !isRound(round)) {
                blame(NO_SUCH_NUMBER, numberPlace);
            }
            if (faultNumber == 0) {
                scene.addCar(at, round);
            }
        }

        /** A first 0 is a figure of the ROUND too, though the number's worth does not show it. */
        private boolean isRound(int round) {
            return text.at(numberPlace) != '0' && Figures.areAllUpTo(round, corners);
        }

        private void readFollowing() {
            int c = readNumber(0, scene.cars - 1);
            if (faultNumber == 0 && scene.leader[c] != NONE) {
                blame(CANNOT_FOLLOW, numberPlace);
            }
            int d = readNumber(0, scene.cars - 1);
            if (faultNumber == 0 && c == d) {
                blame(CANNOT_FOLLOW, numberPlace);
            }
            if (faultNumber == 0) {
                scene.leader[c] = d;
            }
        }

        private void readSemicolon() {
            skipBlanks();
            if (letter() != ';') {
                blame(CANNOT_STAND, place);
            }
            place++;
        }

        /** A number within its bounds; NONE with a fault, also with an earlier one. */
        private int readNumber(int least, int most) {
            if (faultNumber != 0) {
                return NONE;
            }
            skipBlanks();
            if (!isFigure()) {
                blame(CANNOT_STAND, place);
                return NONE;
            }
            numberPlace = place;
            int value = 0;
            for (int i = 0; i < MOST_LETTERS && isFigure(); i++) {
                value = Math.min(value * 10 + letter() - '0', GREATEST_NUMBER + 1);
                place++;
            }
            if (place - numberPlace > MOST_FIGURES || value < least || value > most) {
                blame(NO_SUCH_NUMBER, numberPlace);
                return NONE;
            }
            return value;
        }
    }

    /** What can be undone; the oldest is lost where there is no room. */
    private static final class History {
        private final Scene[] kept = new Scene[MOST_UNDONE];
        private int top = 0;
        int count = 0;

        History() {
            for (int i = 0; i < MOST_UNDONE; i++) {
                kept[i] = new Scene();
            }
        }

        void push(Scene scene) {
            kept[top].copyFrom(scene);
            top = (top + 1) % MOST_UNDONE;
            count = Math.min(count + 1, MOST_UNDONE);
        }

        void pop(Scene scene) {
            if (count > 0) {
                top = (top + MOST_UNDONE - 1) % MOST_UNDONE;
                scene.copyFrom(kept[top]);
                count--;
            }
        }

        void forget() {
            count = 0;
        }
    }

    private static final class Images {
        final Scene[] scene = new Scene[MOST_IMAGES];
        final int[] drawValue = new int[MOST_IMAGES];
        final boolean[] kept = new boolean[MOST_IMAGES];

        Images() {
            for (int i = 0; i < MOST_IMAGES; i++) {
                scene[i] = new Scene();
            }
        }

        void put(int i, Scene from, int value) {
            scene[i].copyFrom(from);
            drawValue[i] = value;
            kept[i] = true;
        }

        void forget() {
            for (int i = 0; i < MOST_IMAGES; i++) {
                kept[i] = false;
            }
        }
    }

    /** Cars by the corner where they are behind some steps: what is SEEN, and THE BOOK. */
    private static final class Entries {
        final int most;
        final int[] car;
        final int[] steps;
        final int[] corner;
        int count = 0;

        Entries(int room) {
            most = Math.max(room, 0);
            car = new int[most];
            steps = new int[most];
            corner = new int[most];
        }

        int add(int c, int n, int j) {
            if (count >= most) {
                return FULL;
            }
            car[count] = c;
            steps[count] = n;
            corner[count] = j;
            count++;
            return count;
        }
    }

    /** Where one car would be by each whom it could follow, and which of them fit what is SEEN. */
    private static final class Guess {
        private final int[][] track = new int[MOST_CARS][FARTHEST_SEEN + 1];
        private final Scene tried = new Scene();
        int fitting = 0;

        void weigh(Scene now, int c, Entries sightings) {
            fitting = 0;
            for (int d = 0; d < now.cars; d++) {
                if (d != c) {
                    tried.copyFrom(now);
                    tried.leader[c] = d;
                    recordTrack(c, d);
                    if (fits(c, d, sightings)) {
                        fitting |= 1 << d;
                    }
                }
            }
        }

        private void recordTrack(int c, int d) {
            for (int n = 1; n <= FARTHEST_SEEN; n++) {
                tried.move();
                track[d][n] = tried.corner[c];
            }
        }

        private boolean fits(int c, int d, Entries sightings) {
            for (int i = 0; i < sightings.count; i++) {
                if (sightings.car[i] == c && track[d][sightings.steps[i]] != sightings.corner[i]) {
                    return false;
                }
            }
            return true;
        }

        int bestLook() {
            int best = NONE;
            int leastPart = Integer.bitCount(fitting);
            for (int n = 1; n <= FARTHEST_SEEN; n++) {
                int part = greatestPart(n);
                if (part < leastPart) {
                    leastPart = part;
                    best = n;
                }
            }
            return best;
        }

        private int greatestPart(int n) {
            int greatest = 0;
            for (int d = 0; d < MOST_CARS; d++) {
                if (isIn(fitting, d)) {
                    greatest = Math.max(greatest, partAlike(d, n));
                }
            }
            return greatest;
        }

        private int partAlike(int d, int n) {
            int alike = 0;
            for (int e = 0; e < MOST_CARS; e++) {
                if (isIn(fitting, e) && track[e][n] == track[d][n]) {
                    alike++;
                }
            }
            return alike;
        }
    }

    /** THE SEED and the DRAWS that it gives. */
    private static final class Draws {
        int value = 0;

        int drawOf(int n) {
            value = value * 1103515245 + 12345 & GREATEST_SEED;
            return n > 0 ? value / 65536 % n : 0;
        }
    }
}
