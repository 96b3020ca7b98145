import java.util.ArrayList;
import java.util.Arrays;
import java.util.List;

/** A refused call leaves all that can be asked as it was, and so does a call that only asks. */
final class RefusedEdges {
    private interface Call {
        long on(RoadCounts x);
    }

    private static final int MIN = Sentences.MIN;
    private static final int MAX = Sentences.MAX;

    private final Sentences s;
    private boolean isFull;
    private long[] untouched;

    RefusedEdges(Sentences s) {
        this.s = s;
    }

    void all() {
        s.terms("A call that is refused (NONE, false) changes nothing but the tape, where it is told.");
        for (int full = 0; full < 2; full++) {
            isFull = full == 1;
            untouched = all(build());
            refusedShapes();
            refusedRoads();
            refusedQuestions();
            refusedTape();
            questions();
        }
        refusedByFull();
        neverRefused();
    }

    /** The fuller of the two states has no room left anywhere. */
    private RoadCounts build() {
        RoadCounts x = new RoadCounts();
        int roads = isFull ? 12 : 5;
        for (int i = 0; i < 8; i++) {
            x.weekday(i % 4, i % 7, 2 + i);
            x.month(i % 4, i, 3 + i);
        }
        for (int r = 0; r < roads; r++) {
            x.road(r % 9 - 1, (r + 4) % 9 - 1, 10 * r);
            x.shape(r, r % 4);
        }
        for (int i = 0; i < (isFull ? 14 : 3); i++) {
            x.count(0, 25 * i, 100 + i);
        }
        x.count(1, 6, 50);
        x.count(3, 200, 60);
        for (int i = 0; i < (isFull ? 20 : 2); i++) {
            x.holiday(50 + 3 * i);
        }
        Check.rules(x, "0:1-1;1:2-2;2:3-3,1-5");
        Check.pass(x, 1, 1, 0, 2, 0, 3, 3, 0, 4);
        for (int i = 0; i < (isFull ? 6 : 1); i++) {
            x.feed(0x01000200, 0x03030004, 0x00020000, 0x01010100, 0x00000001);
        }
        return x;
    }

    /** All that an object can be asked; the tape and the rules show by what passes. */
    private static long[] all(RoadCounts x) {
        List<Long> answers = new ArrayList<>();
        for (int what = 0; what <= 5; what++) {
            answers.add((long) x.tell(what));
        }
        for (int shape = 0; shape < 4; shape++) {
            answers.add(x.whole(shape));
        }
        for (int r = 0; r < 12; r++) {
            addRoad(x, r, answers);
        }
        for (int i = 0; i < 14; i++) {
            answers.add((long) x.look(0, 100 + 25 * i));
        }
        for (int j = 0; j < 8; j++) {
            answers.add((long) x.balances(j));
            answers.add(x.balance(j));
        }
        answers.add((long) x.plan());
        answers.add((long) x.pass(0, x.tell(3)));
        x.feed(0x01000200, 0x03010003, 0x05000306, 0x00070000, 0);
        answers.add((long) x.pass(4, 20));
        for (int kind = 0; kind <= 9; kind++) {
            answers.add((long) x.kinds(0, kind));
            answers.add((long) x.kinds(4, kind));
        }
        return answers.stream().mapToLong(n -> n).toArray();
    }

    private static void addRoad(RoadCounts x, int r, List<Long> answers) {
        for (int what = 0; what <= 5; what++) {
            answers.add((long) x.look(r, what));
        }
        answers.add(x.year(r));
        answers.add(x.span(r, 0));
        answers.add(x.span(r, 1));
        answers.add((long) x.best(r));
        answers.add((long) x.how(r));
        answers.add(x.load(r));
        for (int kind : new int[] {0, 1, 2, 8, 9}) {
            answers.add((long) x.kinds(r, kind));
        }
    }

    private void nothingBy(String name, Call call) {
        RoadCounts x = build();
        call.on(x);
        int at = Arrays.mismatch(all(x), untouched);
        s.due((isFull ? "full: " : "not full: ") + name + " leaves the answer", at, -1);
    }

    private void refused(String name, long want, Call call) {
        s.due((isFull ? "full: " : "not full: ") + name, call.on(build()), want);
        nothingBy(name, call);
    }

    private static long number(boolean b) {
        return b ? 1 : 0;
    }

    private void refusedShapes() {
        int[][] wrong = {{-1, 0, 9}, {4, 0, 9}, {MAX, 0, 9}, {MIN, 0, 9}, {0, -1, 9}, {3, MAX, 9}, {0, MIN, 9}, {0, 0, 0},
            {3, 6, 100}, {0, 0, MIN}, {0, 0, MAX}};
        for (int[] w : wrong) {
            refused("weekday " + Arrays.toString(w), 0, x -> number(x.weekday(w[0], w[1], w[2])));
            refused("month " + Arrays.toString(w), 0, x -> number(x.month(w[0], w[1], w[2])));
        }
        refused("weekday 7", 0, x -> number(x.weekday(0, 7, 9)));
        refused("month 13", 0, x -> number(x.month(0, 13, 9)));
        for (int day : new int[] {-1, 364, MIN, MAX, 50, 53}) {
            refused("holiday " + day, 0, x -> number(x.holiday(day)));
        }
    }

    private void refusedRoads() {
        int[][] roads = {{-2, 0, 1}, {0, -2, 1}, {8, 0, 1}, {0, 8, 1}, {3, 3, 1}, {-1, -1, 1}, {0, 1, -1}, {0, 1, 10000},
            {MIN, 0, 1}, {0, MAX, 1}, {0, 1, MIN}};
        for (int[] w : roads) {
            refused("road " + Arrays.toString(w), -1, x -> x.road(w[0], w[1], w[2]));
        }
        int[][] shapes = {{-1, 1}, {12, 1}, {MIN, 1}, {MAX, 1}, {0, -1}, {0, 4}, {1, MIN}, {1, MAX}};
        for (int[] w : shapes) {
            refused("shape " + Arrays.toString(w), 0, x -> number(x.shape(w[0], w[1])));
        }
        int[][] counts = {{-1, 0, 1}, {12, 0, 1}, {MAX, 0, 1}, {0, -1, 1}, {0, 364, 1}, {0, MIN, 1}, {0, 0, -1},
            {0, 25, 100001}, {0, 300, -1}, {1, 6, MAX}};
        for (int[] w : counts) {
            refused("count " + Arrays.toString(w), 0, x -> number(x.count(w[0], w[1], w[2])));
        }
    }

    private void refusedQuestions() {
        for (int r : new int[] {-1, 12, MIN, MAX}) {
            refused("year", -1, x -> x.year(r));
            refused("span", -1, x -> x.span(r, 0));
            refused("best", -1, x -> x.best(r));
            refused("how", -1, x -> x.how(r));
            refused("load", 0, x -> x.load(r));
            refused("kinds of no road", -1, x -> x.kinds(r, 0));
            refused("look at no road", -1, x -> x.look(r, 2));
            refused("balances", -1, x -> x.balances(r));
            refused("balance", 0, x -> x.balance(r));
            refused("whole", -1, x -> x.whole(r));
            refused("span of others", -1, x -> x.span(0, r));
            refused("look at others", -1, x -> x.look(0, r));
            refused("kinds of others", -1, x -> x.kinds(0, r));
            refused("tell others", -1, x -> x.tell(r));
        }
        for (int set : new int[] {-1, 4096, MIN, MAX}) {
            refused("does", -1, x -> x.does(set));
        }
    }

    private void refusedTape() {
        for (int n : new int[] {-1, 121, MIN, MAX}) {
            refused("rules " + n, -1, x -> x.rules(n));
            refused("pass " + n, -1, x -> x.pass(0, n));
        }
        for (int r : new int[] {-1, 12, MIN, MAX}) {
            refused("pass on no road", -1, x -> x.pass(r, 1));
            refused("pass none on no road", -1, x -> x.pass(r, 0));
        }
    }

    private void questions() {
        nothingBy("year", x -> x.year(0));
        nothingBy("span", x -> x.span(0, 1));
        nothingBy("best", x -> x.best(0));
        nothingBy("how", x -> x.how(0));
        nothingBy("load", x -> x.load(0));
        nothingBy("balances", x -> x.balances(0));
        nothingBy("balance", x -> x.balance(0));
        nothingBy("does", x -> x.does(0) + x.does(31));
        nothingBy("plan", RoadCounts::plan);
        nothingBy("kinds", x -> x.kinds(1, 0));
        nothingBy("whole", x -> x.whole(0));
        nothingBy("look", x -> x.look(0, 100));
        for (int what = 0; what <= 5; what++) {
            int asked = what;
            nothingBy("tell", x -> x.tell(asked));
        }
    }

    /** What is only refused because there is no room. */
    private void refusedByFull() {
        isFull = true;
        untouched = all(build());
        refused("a 21st holiday", 0, x -> number(x.holiday(0)));
        refused("a 21st holiday on a counted day", 0, x -> number(x.holiday(6)));
        refused("a 13th road", -1, x -> x.road(0, 1, 1));
        refused("a 15th day", 0, x -> number(x.count(0, 1, 1)));
        refused("bytes 121 to 140", -1, x -> x.feed(1, 1, 1, 1, 1));
        isFull = false;
        untouched = all(build());
        refused("a road that is not there yet", 0, x -> number(x.shape(5, 1)));
        refused("a count of it", 0, x -> number(x.count(5, 1, 1)));
        refused("a set with it", -1, x -> x.does(32));
        refused("one that passes it", -1, x -> x.pass(5, 1));
        refused("a byte more than there is", -1, x -> x.pass(4, 21));
        refused("rules of a byte more", -1, x -> x.rules(21));
    }

    /** The same answers do tell a change: each call that is not refused shows in them. */
    private void neverRefused() {
        shows("weekday", x -> number(x.weekday(3, 2, 77)));
        shows("month", x -> number(x.month(2, 12, 77)));
        shows("holiday", x -> number(x.holiday(363)));
        shows("road", x -> x.road(0, 1, 0));
        shows("shape", x -> number(x.shape(4, 1)));
        shows("count", x -> number(x.count(0, 1, 1)));
        shows("feed", x -> x.feed(0, 0, 0, 0, 0));
        shows("rules", x -> x.rules(0));
        shows("pass", x -> x.pass(2, 0));
    }

    private void shows(String name, Call call) {
        RoadCounts x = build();
        call.on(x);
        s.due(name + " shows", Arrays.mismatch(all(x), untouched) >= 0, true);
    }
}
