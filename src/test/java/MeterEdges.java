/** Boundary cases of sets of meters: which do, and the plan. */
final class MeterEdges {
    private final Sentences s;

    MeterEdges(Sentences s) {
        this.s = s;
    }

    void all() {
        countsAreNotAsked();
        leastPrice();
        fewestRoads();
        leastBits();
        does();
        plan();
    }

    private static RoadCounts parallel(int... prices) {
        RoadCounts x = new RoadCounts();
        for (int price : prices) {
            x.road(6, 7, price);
        }
        return x;
    }

    private void countsAreNotAsked() {
        s.terms("METERS on a set of ROADS do if all others would FOLLOW from these alone (COUNTS not asked).");
        RoadCounts x = parallel(5, 5, 5);
        s.due("none", x.does(0), 0);
        s.due("two are left", x.does(1), 0);
        s.due("one is left", x.does(3), 1);
        s.due("none is left", x.does(7), 1);
        for (int r = 0; r < 3; r++) {
            x.count(r, 0, 1 + r);
            s.due("with counts on " + r, x.does(0), 0);
            s.due("with counts on " + r, x.does(2), 0);
            s.due("with counts on " + r, x.does(6), 1);
            s.due("the plan with counts on " + r, x.plan(), 3);
        }
        RoadCounts y = new RoadCounts();
        y.road(0, 1, 5);
        s.due("a dead end follows from nothing", y.does(0), 1);
        y.road(-1, 1, 5);
        s.due("a dead end with a way out", y.does(0), 1);
        y.road(0, -1, 5);
        s.due("a ring through outside", y.does(0), 0);
        for (int r = 0; r < 3; r++) {
            s.due("one meter on it", y.does(1 << r), 1);
        }
    }

    private void leastPrice() {
        s.terms("of all sets that do that of the least PRICE in all");
        s.due("the dearest is left", parallel(1, 9999, 0).plan(), 5);
        s.due("the dearest is first", parallel(9999, 9998, 9998).plan(), 6);
        s.due("one penny", parallel(0, 0, 1).plan(), 3);
        s.due("one penny", parallel(1, 0, 0).plan(), 6);
        s.due("twelve, the first is the dearest", parallel(9999, 9, 9, 9, 9, 9, 9, 9, 9, 9, 9, 9).plan(), 4094);
        s.due("twelve, the last is the dearest", parallel(9, 9, 9, 9, 9, 9, 9, 9, 9, 9, 9, 9999).plan(), 2047);
        // a meter on the road that two rings share is not enough, however cheap it is
        RoadCounts x = new RoadCounts();
        x.road(0, 1, 0);
        x.road(1, 0, 7);
        x.road(1, 2, 5);
        x.road(2, 0, 6);
        s.due("two rings", x.plan(), 5);
        s.due("the shared road alone", x.does(1), 0);
    }

    private void fewestRoads() {
        s.terms("of like ones with fewest ROADS");
        s.due("one road for nothing", parallel(0).plan(), 0);
        s.due("all for nothing", parallel(0, 0, 0, 0, 0, 0, 0, 0, 0, 0, 0, 0).plan(), 2047);
        RoadCounts x = new RoadCounts();
        for (int j = 0; j < 8; j++) {
            x.road(j, j == 7 ? -1 : j + 1, 0);
        }
        s.due("all follow from nothing", x.plan(), 0);
        x.road(-1, 0, 0);
        s.due("a ring of nine", x.plan(), 1);
    }

    private void leastBits() {
        s.terms("of like ones the least, as bits.");
        s.due("two", parallel(4, 4).plan(), 1);
        s.due("three", parallel(4, 4, 4).plan(), 3);
        s.due("one of the like ones", parallel(2, 4, 4).plan(), 3);
        s.due("one of the like ones", parallel(4, 4, 2).plan(), 5);
        s.due("twelve of the greatest price",
            parallel(9999, 9999, 9999, 9999, 9999, 9999, 9999, 9999, 9999, 9999, 9999, 9999).plan(), 2047);
        // roads 0 and 2 are one ring, 1 and 3 the other
        RoadCounts x = new RoadCounts();
        x.road(0, 1, 3);
        x.road(2, 3, 2);
        x.road(1, 0, 3);
        x.road(3, 2, 2);
        s.due("two rings", x.plan(), 3);
        RoadCounts y = new RoadCounts();
        for (int i = 0; i < 6; i++) {
            y.road(5 - i, 6, 8);
            y.road(6, 5 - i, 8);
        }
        s.due("six rings", y.plan(), 0b010101010101);
    }

    private void does() {
        s.promise(15, "Whether METERS on a set of ROADS (bits) do: 1, 0; NONE: no such ROADS.");
        RoadCounts x = new RoadCounts();
        s.due("none of none", x.does(0), 1);
        for (int set : new int[] {1, 2, 4096, -1, Sentences.MIN, Sentences.MAX}) {
            s.due("no roads, set " + set, x.does(set), -1);
        }
        for (int n = 1; n <= 12; n++) {
            x.road(6, 7, 0);
            s.due("all of " + n, x.does((1 << n) - 1), 1);
            s.due("all but the last of " + n, x.does((1 << n - 1) - 1), 1);
            s.due("no such road", x.does(1 << n), -1);
            s.due("all and one more", x.does((1 << n + 1) - 1), -1);
            s.due("none", x.does(0), n == 1 ? 1 : 0);
            for (int set : new int[] {-1, Sentences.MIN, Sentences.MIN + 1, Sentences.MAX, 1 << 30}) {
                s.due("set " + set, x.does(set), -1);
            }
        }
    }

    private void plan() {
        s.promise(16, "THE PLAN, as bits.");
        s.due("no roads", new RoadCounts().plan(), 0);
        RoadCounts x = parallel(9, 8, 7, 6, 5, 4, 3, 2, 1, 0, 9, 8);
        int plan = x.plan();
        s.due("twelve", plan, 4095 & ~(1 << 10));
        s.due("it does", x.does(plan), 1);
        for (int r = 0; r < 12; r++) {
            if ((plan >> r & 1) == 1) {
                s.due("none less does", x.does(plan & ~(1 << r)), 0);
            }
        }
        RoadCounts y = new RoadCounts();
        for (int r = 0; r < 12; r++) {
            y.road(r < 6 ? -1 : 0, r < 6 ? 0 : -1, 9999);
        }
        s.due("through outside", y.plan(), 2047);
        s.due("asking changes nothing", y.plan(), 2047);
        s.due("nothing is known", y.tell(4) + y.tell(5), 0);
    }
}
