/** What the tests share: answers that are due, texts that are fed. */
final class Checks {
    private int wrong = 0;
    private int made = 0;

    void due(String call, long got, long want) {
        made++;
        if (got != want) {
            wrong++;
            if (wrong <= 40) {
                System.out.println(call + " answered " + got + ", due is " + want);
            }
        }
    }

    void holds(String what, boolean so) {
        due(what, so ? 1 : 0, 1);
    }

    int made() {
        return made;
    }

    static void feedAll(FollowCab cab, String text) {
        for (int i = 0; i < text.length(); i++) {
            cab.feed(text.charAt(i));
        }
    }

    static FollowCab inTown(String text) {
        FollowCab cab = new FollowCab();
        feedAll(cab, text);
        if (cab.town() < 0) {
            throw new IllegalStateException("a test's town has a fault: " + text);
        }
        return cab;
    }

    void finish() {
        System.out.println(wrong == 0 ? made + " answers are as due" : wrong + " answers are not as due");
        if (wrong != 0) {
            System.exit(1);
        }
    }
}
