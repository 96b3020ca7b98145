/** Counts and prints answers that are not as due, and feeds texts to an object's tape. */
final class Check {
    private int wrong = 0;
    private int asked = 0;

    void due(String what, long got, long want) {
        asked++;
        if (got != want) {
            wrong++;
            if (wrong <= 50) {
                System.out.println(what + " answered " + got + ", due is " + want);
            }
        }
    }

    void due(String what, boolean got, boolean want) {
        due(what, got ? 1 : 0, want ? 1 : 0);
    }

    boolean isWrong() {
        return wrong > 0;
    }

    void end(String name) {
        System.out.println(name + ": " + asked + " answers, " + wrong + " not as due");
        if (wrong > 0 || asked == 0) {
            System.exit(1);
        }
    }

    static int four(int[] bytes, int from) {
        int four = 0;
        for (int i = from; i < from + 4; i++) {
            four = four << 8 | (i < bytes.length ? bytes[i] : ' ');
        }
        return four;
    }

    /** Feeds bytes, filled up with blanks to a multiple of twenty. */
    static void feed(RoadCounts x, int... bytes) {
        for (int i = 0; i < bytes.length; i += 20) {
            x.feed(four(bytes, i), four(bytes, i + 4), four(bytes, i + 8), four(bytes, i + 12), four(bytes, i + 16));
        }
    }

    static int[] bytes(String text) {
        return text.chars().toArray();
    }

    static int rules(RoadCounts x, String text) {
        feed(x, bytes(text));
        return x.rules(text.length());
    }

    static int pass(RoadCounts x, int r, int... bytes) {
        feed(x, bytes);
        return x.pass(r, bytes.length);
    }
}
