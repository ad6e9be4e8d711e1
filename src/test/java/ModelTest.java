import java.util.Random;

/** Runs of calls by fixed draws, ordinary and wrong ones, each answer held against the model's. */
public final class ModelTest {
    private static final int RUNS = 3000;
    private static final int CALLS = 512;
    private static final String[] NAMES = {
        "town", "fault", "told", "car", "step", "follow", "letOff", "turn", "drift", "undo", "where", "sees", "rings",
        "end", "behind", "stop", "cross", "handed", "meets", "asked", "see", "whom", "look", "write", "tear", "judge",
        "seed", "keep", "goBack"};
    private static final int[] EXTREMES = {Integer.MIN_VALUE, Integer.MAX_VALUE, -2, -1, 0, 1, 2, 6, 8, 9, 10, 30, 31, 60, 61, 200, 201, 1 << 31, 255, 256};
    private static final Checks checks = new Checks();

    public static void main(String[] args) {
        for (int run = 0; run < RUNS; run++) {
            play(run, new Random(run * 7919L + 17));
        }
        checkTexts(new Random(5));
        checks.finish();
    }

    private static void play(int run, Random random) {
        FollowCab cab = new FollowCab();
        Model model = new Model();
        int calls = 0;
        // Some runs keep to a few kinds of calls, so that long histories and full books come about.
        boolean narrow = random.nextInt(3) == 0;
        int[] kinds = random.ints(narrow ? 6 : NAMES.length, 0, NAMES.length).toArray();
        if (random.nextInt(10) != 0) {
            calls = tellTown(run, cab, model, random);
        }
        for (; calls < CALLS; calls++) {
            int kind = narrow ? kinds[random.nextInt(kinds.length)] : random.nextInt(NAMES.length);
            String name = NAMES[kind];
            if (name.equals("town") && (narrow || random.nextInt(8) != 0)) continue;
            if (name.equals("tear") && random.nextInt(3) != 0) continue;
            int[] a = {draw(name, 0, random), draw(name, 1, random), draw(name, 2, random)};
            // What is seen by mere chance fits nobody soon, so most of it is made to be so by somebody.
            if (name.equals("see") && random.nextInt(4) != 0) a[2] = model.seenBy(a[0], random.nextInt(8), a[1], a[2]);
            call(run, cab, model, name, a);
            if (random.nextInt(40) == 0 && ++calls < CALLS) call(run, cab, model, "feed", new int[] {random.nextInt(300) - 20, 0, 0});
        }
    }

    private static int tellTown(int run, FollowCab cab, Model model, Random random) {
        String text = town(random);
        for (int i = 0; i < text.length(); i++) {
            call(run, cab, model, "feed", new int[] {text.charAt(i), 0, 0});
        }
        call(run, cab, model, "town", new int[3]);
        return text.length() + 1;
    }

    private static void checkTexts(Random random) {
        for (int i = 0; i < 40000; i++) {
            FollowCab cab = new FollowCab();
            Model model = new Model();
            String text = spoilt(town(random), random);
            Checks.feedAll(cab, text);
            for (int k = 0; k < text.length(); k++) model.feed(text.charAt(k));
            checks.due("town() of '" + text + "'", cab.town(), model.town());
            checks.due("fault() of '" + text + "'", cab.fault(), model.fault());
            for (int what = 0; what < 12; what++) checks.due("told(" + what + ") of '" + text + "'", cab.told(what), model.told(what));
        }
    }

    private static String town(Random random) {
        int corners = 1 + random.nextInt(9);
        int cars = random.nextInt(9);
        StringBuilder text = new StringBuilder("t" + corners + " " + random.nextInt(101) + ";");
        for (int c = 0; c < cars; c++) {
            text.append('c').append(random.nextInt(corners)).append(' ');
            for (int k = random.nextInt(6); k >= 0; k--) text.append((char) ('1' + random.nextInt(corners)));
            text.append(';');
        }
        for (int c = 0; c < cars; c++) {
            int d = random.nextInt(cars);
            if (d != c && random.nextBoolean()) text.append('f').append(c).append(' ').append(d).append(';');
        }
        return text.toString();
    }

    private static String spoilt(String text, Random random) {
        StringBuilder out = new StringBuilder(text);
        String letters = "tcf;; 0123456789  x" + (char) 0 + (char) 255;
        for (int k = random.nextInt(4); k > 0 && out.length() > 0; k--) {
            int at = random.nextInt(out.length());
            char letter = letters.charAt(random.nextInt(letters.length()));
            switch (random.nextInt(4)) {
                case 0 -> out.setCharAt(at, letter);
                case 1 -> out.deleteCharAt(at);
                case 2 -> out.insert(at, letter);
                default -> out.setLength(random.nextInt(8) == 0 ? at : out.length());
            }
        }
        return out.toString();
    }

    private static int draw(String name, int place, Random random) {
        int kind = random.nextInt(24);
        if (kind == 0) return EXTREMES[random.nextInt(EXTREMES.length)];
        if (kind == 1) return random.nextInt();
        switch (name + place) {
            case "told0": return random.nextInt(13);
            case "car1": return random.nextInt(6);
            case "step0": case "drift0": return 1 + random.nextInt(random.nextInt(4) == 0 ? 61 : 3);
            case "where1": case "meets0": return random.nextInt(random.nextBoolean() ? 12 : 202);
            case "rings0": case "end1": return random.nextInt(5) - 1;
            case "asked0": return random.nextInt(62);
            case "see1": return 1 + random.nextInt(random.nextBoolean() ? 4 : 31);
            case "seed0": return random.nextInt() & Integer.MAX_VALUE;
            case "keep0": case "goBack0": return random.nextInt(3);
            default: return random.nextInt(8);
        }
    }

    private static void call(int run, FollowCab x, Model m, String name, int[] a) {
        int got, want;
        switch (name) {
            case "feed": got = x.feed(a[0]); want = m.feed(a[0]); break;
            case "town": got = x.town(); want = m.town(); break;
            case "fault": got = x.fault(); want = m.fault(); break;
            case "told": got = x.told(a[0]); want = m.told(a[0]); break;
            case "car": got = x.car(a[0], a[1]); want = m.car(a[0], a[1]); break;
            case "step": got = x.step(a[0]); want = m.step(a[0]); break;
            case "follow": got = x.follow(a[0], a[1]); want = m.follow(a[0], a[1]); break;
            case "letOff": got = x.letOff(a[0]); want = m.letOff(a[0]); break;
            case "turn": got = x.turn(a[0]); want = m.turn(a[0]); break;
            case "drift": got = x.drift(a[0]); want = m.drift(a[0]); break;
            case "undo": got = x.undo(); want = m.undo(); break;
            case "where": got = x.where(a[0], a[1]); want = m.where(a[0], a[1]); break;
            case "sees": got = x.sees(a[0], a[1]); want = m.sees(a[0], a[1]); break;
            case "rings": got = x.rings(a[0]); want = m.rings(a[0]); break;
            case "end": got = x.end(a[0], a[1]); want = m.end(a[0], a[1]); break;
            case "behind": got = x.behind(a[0]); want = m.behind(a[0]); break;
            case "stop": got = x.stop(); want = m.stop(); break;
            case "cross": got = x.cross(a[0], a[1]); want = m.cross(a[0], a[1]); break;
            case "handed": got = x.handed(a[0], a[1]); want = m.handed(a[0], a[1]); break;
            case "meets": got = x.meets(a[0]); want = m.meets(a[0]); break;
            case "asked": got = x.asked(a[0]); want = m.asked(a[0]); break;
            case "see": got = x.see(a[0], a[1], a[2]); want = m.see(a[0], a[1], a[2]); break;
            case "whom": got = x.whom(a[0]); want = m.whom(a[0]); break;
            case "look": got = x.look(a[0]); want = m.look(a[0]); break;
            case "write": got = x.write(a[0], a[1]); want = m.write(a[0], a[1]); break;
            case "tear": got = x.tear(); want = m.tear(); break;
            case "judge": got = x.judge(); want = m.judge(); break;
            case "seed": got = x.seed(a[0]); want = m.seed(a[0]); break;
            case "keep": got = x.keep(a[0]); want = m.keep(a[0]); break;
            case "goBack": got = x.goBack(a[0]); want = m.goBack(a[0]); break;
            default: throw new IllegalStateException(name);
        }
        checks.due("run " + run + ": " + name + "(" + a[0] + ", " + a[1] + ", " + a[2] + ")", got, want);
    }
}
