/** Boundary cases of what is known, what follows at junctions, and balances. */
final class FollowEdges {
    private static final int[] NO_JUNCTIONS = {-1, 8, Sentences.MIN, Sentences.MAX};
    private static final int YEAR = 364;

    private final Sentences s;

    FollowEdges(Sentences s) {
        this.s = s;
    }

    void all() {
        oneWay();
        knownByUsedCounts();
        justOneRoad();
        againAndAgain();
        byNumbers();
        aRoundGoesOn();
        belowZero();
        manyLargeLoads();
        balanceOfAll();
        how();
        load();
        balances();
        balance();
        tell();
    }

    private static int[] noRoads(int behindLast) {
        return new int[] {-1, behindLast, 32, 64, Sentences.MIN, Sentences.MAX};
    }

    /** A ring of two roads, so that neither follows while none is known. */
    private static RoadCounts ring() {
        RoadCounts x = new RoadCounts();
        x.road(3, 7, 0);
        x.road(7, 3, 0);
        return x;
    }

    private void oneWay() {
        s.terms("each one way");
        RoadCounts x = new RoadCounts();
        x.road(0, 7, 0);
        x.count(0, 0, 2);
        s.due("goes out of the first", x.balance(0), -2 * YEAR);
        s.due("comes into the last", x.balance(7), 2 * YEAR);
    }

    private void knownByUsedCounts() {
        s.terms("A ROAD is KNOWN by COUNTS (if some were USED), or FOLLOWS");
        RoadCounts x = ring();
        s.due("no counts", x.how(0), 2);
        x.holiday(9);
        x.count(0, 9, 5);
        s.due("a holiday's alone", x.how(0), 2);
        x.count(0, 10, 0);
        s.due("one used, of 0", x.how(0), 0);
        s.due("the other follows", x.how(1), 1);
        x.count(1, 10, 1);
        s.due("what could follow is known", x.how(1), 0);
        s.due("known by its counts", x.load(1), YEAR);
        x.holiday(10);
        s.due("then none is", x.how(0), 2);
        s.due("nor the other", x.how(1), 2);
    }

    private void justOneRoad() {
        s.terms("at one with just one ROAD that is neither KNOWN nor FOLLOWS yet, it FOLLOWS");
        RoadCounts x = new RoadCounts();
        x.road(4, -1, 0);
        s.due("one road alone", x.how(0), 1);
        s.due("nothing comes in", x.load(0), 0);
        x.road(-1, 4, 0);
        s.due("two are open", x.how(0), 2);
        s.due("two are open", x.how(1), 2);
        x.road(4, 5, 0);
        s.due("a dead end follows at its other junction", x.how(2), 1);
        x.road(5, 4, 0);
        s.due("no dead end", x.how(2), 2);
        x.count(1, 0, 7);
        x.count(3, 0, 2);
        s.due("just one at junction 5", x.how(2), 1);
        s.due("as much as comes in there", x.load(2), 2 * YEAR);
        s.due("then just one at junction 4", x.load(0), 7 * YEAR);
        x.count(0, 0, 1);
        x.count(2, 0, 1);
        s.due("none is open, none follows", x.tell(5), 0);
        RoadCounts y = new RoadCounts();
        y.road(-1, 0, 0);
        y.road(0, -1, 0);
        s.due("nothing follows outside", y.tell(5), 0);
    }

    /** Against the numbers only one road follows in each round; with them all do in the first. */
    private void againAndAgain() {
        s.terms("again and again, till nothing more follows");
        RoadCounts down = new RoadCounts();
        RoadCounts up = new RoadCounts();
        for (int i = 0; i <= 8; i++) {
            down.road(8 - i > 7 ? -1 : 8 - i, 7 - i, 0);
            up.road(i - 1, i > 7 ? -1 : i, 0);
        }
        s.due("nothing follows", down.tell(5), 0);
        down.count(0, 5, 3);
        up.count(0, 5, 3);
        for (int r = 1; r <= 8; r++) {
            s.due("downwards " + r, down.load(r), 3 * YEAR);
            s.due("upwards " + r, up.load(r), 3 * YEAR);
        }
        s.due("all but one", down.tell(5), 8);
        s.due("all but one", up.tell(5), 8);
    }

    private void byNumbers() {
        s.terms("JUNCTIONS are gone through by numbers");
        for (int low = 0; low < 7; low++) {
            for (int turned = 0; turned < 2; turned++) {
                RoadCounts x = new RoadCounts();
                x.road(-1, low, 0);
                x.road(turned == 0 ? low : 7, turned == 0 ? 7 : low, 0);
                x.road(7, -1, 0);
                x.count(0, 0, 10);
                x.count(2, 0, 4);
                s.due("the lower is asked first", x.load(1), (turned == 0 ? 10 : -10) * YEAR);
                s.due("it balances", x.balance(low), 0);
                s.due("the higher does not", x.balance(7), 6 * YEAR);
            }
        }
    }

    /** Junction 2 tells road 0; 3 comes behind it and tells road 1 before 1 is asked again. */
    private void aRoundGoesOn() {
        RoadCounts x = new RoadCounts();
        x.road(2, 1, 0);
        x.road(1, 3, 0);
        x.road(3, -1, 0);
        x.road(-1, 2, 0);
        x.road(2, 3, 0);
        x.count(2, 0, 7);
        x.count(3, 0, 10);
        x.count(4, 0, 4);
        s.due("road 0 by junction 2", x.load(0), 6 * YEAR);
        s.due("road 1 by junction 3", x.load(1), 3 * YEAR);
        s.due("junction 1 was not asked", x.balance(1), 3 * YEAR);
    }

    private void belowZero() {
        s.terms("its LOAD is such that as much comes in as goes out (it may be below 0)");
        RoadCounts x = new RoadCounts();
        x.road(0, 1, 0);
        x.road(0, 1, 0);
        x.count(0, 0, 1);
        s.due("beside a known one", x.load(1), -YEAR);
        s.due("it follows", x.how(1), 1);
        s.due("it balances", x.balance(0), 0);
        RoadCounts y = new RoadCounts();
        y.road(-1, 0, 0);
        y.road(-1, 0, 0);
        y.count(1, 0, 100000);
        s.due("coming in", y.load(0), -100000 * YEAR);
        y.count(1, 0, 0);
        s.due("nothing", y.load(0), 0);
        s.due("still it follows", y.how(0), 1);
    }

    private void manyLargeLoads() {
        RoadCounts x = new RoadCounts();
        for (int d = 1; d < 7; d++) {
            x.weekday(0, d, 99);
        }
        for (int m = 1; m < 13; m++) {
            x.month(0, m, 99);
        }
        long load = 100000L * 4 * 595 * 1189;
        for (int r = 0; r < 11; r++) {
            x.road(-1, 0, 0);
            x.count(r, 0, 100000);
        }
        s.due("balance of eleven", x.balance(0), 11 * load);
        x.road(0, -1, 0);
        s.due("the twelfth takes all", x.load(11), 11 * load);
        x.count(11, 0, 0);
        s.due("the balance again", x.balance(0), 11 * load);
    }

    private void balanceOfAll() {
        s.terms("THE BALANCE of a JUNCTION at which all ROADS are KNOWN or FOLLOW: what comes in, less what goes out.");
        RoadCounts x = new RoadCounts();
        s.due("no roads, all of them", x.balances(5), 1);
        s.due("no roads", x.balance(5), 0);
        x.road(-1, 5, 0);
        x.road(5, 6, 0);
        x.road(-1, 6, 0);
        x.road(6, 5, 0);
        x.count(0, 0, 9);
        s.due("two of three open", x.balances(5), 0);
        s.due("the known one is not told", x.balance(5), 0);
        x.count(1, 0, 1);
        s.due("the third follows", x.balances(5), 1);
        s.due("so it balances", x.balance(5), 0);
        s.due("and at the other end", x.balance(6), 0);
        x.count(3, 0, 2);
        x.count(2, 0, 5);
        s.due("more comes in", x.balance(5), 10 * YEAR);
        s.due("at the other, too", x.balance(6), 4 * YEAR);
        x.count(1, 0, 100);
        s.due("more goes out", x.balance(5), -89 * YEAR);
    }

    private void how() {
        s.promise(11, "0 KNOWN, 1 it FOLLOWS, 2 neither; NONE: no such one.");
        RoadCounts x = ring();
        s.due("neither", x.how(1), 2);
        x.count(0, 0, 1);
        s.due("known", x.how(0), 0);
        s.due("follows", x.how(1), 1);
        for (int r : noRoads(2)) {
            s.due("road " + r, x.how(r), -1);
        }
        for (int r = 2; r < 12; r++) {
            x.road(3, 7, 0);
        }
        s.due("the last of twelve", x.how(11), 2);
        s.due("none behind it", x.how(12), -1);
        s.due("no road at all", new RoadCounts().how(0), -1);
    }

    private void load() {
        s.promise(12, "The LOAD of ROAD r, KNOWN or FOLLOWING; 0 too if it has none, or there is no such one.");
        RoadCounts x = ring();
        x.count(0, 0, 6);
        s.due("known", x.load(0), 6 * YEAR);
        s.due("following", x.load(1), 6 * YEAR);
        for (int r : noRoads(2)) {
            s.due("road " + r, x.load(r), 0);
        }
        x.road(3, 7, 0);
        s.due("it has none any more", x.load(1), 0);
        s.due("nor has the new one", x.load(2), 0);
        s.due("this one stays", x.load(0), 6 * YEAR);
        x.holiday(0);
        s.due("nor this one by a holiday", x.load(0), 0);
        s.due("no road at all", new RoadCounts().load(0), 0);
    }

    private void balances() {
        s.promise(13, "Whether JUNCTION j has a BALANCE: 1, 0; NONE: no such one.");
        RoadCounts x = ring();
        for (int j = 0; j < 8; j++) {
            s.due("open at 3 and 7 alone", x.balances(j), j == 3 || j == 7 ? 0 : 1);
        }
        x.count(1, 0, 1);
        s.due("the other follows", x.balances(3), 1);
        s.due("the last junction", x.balances(7), 1);
        for (int j : NO_JUNCTIONS) {
            s.due("junction " + j, x.balances(j), -1);
        }
    }

    private void balance() {
        s.promise(14, "THE BALANCE of JUNCTION j; 0 too if it has none.");
        RoadCounts x = ring();
        x.road(-1, 0, 0);
        x.count(0, 0, 3);
        x.count(1, 0, 1);
        x.count(2, 0, 5);
        s.due("the first junction", x.balance(0), 5 * YEAR);
        s.due("goes out", x.balance(3), -2 * YEAR);
        s.due("the last junction", x.balance(7), 2 * YEAR);
        x.road(3, 7, 0);
        s.due("what follows makes it even", x.balance(7), 0);
        x.road(3, 7, 0);
        s.due("it has none", x.balance(7), 0);
        for (int j : NO_JUNCTIONS) {
            s.due("junction " + j, x.balance(j), 0);
        }
    }

    private void tell() {
        s.promise(23, "4 ROADS that are KNOWN, 5 that FOLLOW. NONE for others.");
        RoadCounts x = new RoadCounts();
        for (int what = 0; what <= 5; what++) {
            s.due("empty, what " + what, x.tell(what), 0);
        }
        for (int r = 0; r < 12; r++) {
            x.road(-1, 0, 0);
        }
        s.due("none is known", x.tell(4), 0);
        for (int r = 0; r < 12; r++) {
            x.count(r, 0, 0);
            s.due("known", x.tell(4), r + 1);
            s.due("follow", x.tell(5), r == 10 ? 1 : 0);
        }
        for (int i = 0; i < 20; i++) {
            x.holiday(i);
        }
        for (int i = 0; i < 6; i++) {
            x.feed(0, 0, 0, 0, 0);
        }
        int[] full = {12, 20, 0, 120, 0, 0};
        for (int what = 0; what <= 5; what++) {
            s.due("full, what " + what, x.tell(what), full[what]);
        }
        for (int what : new int[] {-1, 6, 7, 100, Sentences.MIN, Sentences.MAX}) {
            s.due("what " + what, x.tell(what), -1);
        }
    }
}
