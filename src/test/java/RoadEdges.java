/** Boundary cases of roads, their counts, and what these make: loads, spans and the best shape. */
final class RoadEdges {
    private static final int[] NO_ENDS = {-2, 8, Sentences.MIN, Sentences.MAX};
    private static final int[] NO_PRICES = {-1, 10000, Sentences.MIN, Sentences.MAX};
    private static final int[] NO_COUNTS = {-1, 100001, Sentences.MIN, Sentences.MAX};

    private final Sentences s;

    RoadEdges(Sentences s) {
        this.s = s;
    }

    void all() {
        twelveRoads();
        junctionsAndOutside();
        prices();
        counted();
        fourteenDays();
        holidaysAreKept();
        roundedDown();
        loadsAboveAnInt();
        spanOfEachDay();
        withoutSign();
        everyDayTogether();
        notRounded();
        quotientsInARow();
        likeMisfits();
        road();
        shape();
        count();
        year();
        span();
        best();
        look();
    }

    private static RoadCounts roads(int n) {
        RoadCounts x = new RoadCounts();
        for (int r = 0; r < n; r++) {
            x.road(-1, 0, r);
        }
        return x;
    }

    /** A number below 0, the first number behind the last road, and numbers far off. */
    private static int[] noRoads(int behindLast) {
        return new int[] {-1, behindLast, 32, Sentences.MIN, Sentences.MAX};
    }

    private void twelveRoads() {
        s.terms("ROADS 0 to 11");
        RoadCounts x = new RoadCounts();
        for (int r = 0; r < 12; r++) {
            s.due("not there yet", x.look(r, 2), -1);
            s.due("road " + r, x.road(0, 1, 100 + r), r);
        }
        s.due("a 13th", x.road(0, 1, 0), -1);
        s.due("no road 12", x.look(12, 2), -1);
        for (int r = 0; r < 12; r++) {
            s.due("price of " + r, x.look(r, 2), 100 + r);
        }
    }

    private void junctionsAndOutside() {
        s.terms("from a JUNCTION (0 to 7) or OUTSIDE to another JUNCTION or OUTSIDE");
        for (int a = -3; a <= 9; a++) {
            RoadCounts x = new RoadCounts();
            int made = 0;
            for (int b = -3; b <= 9; b++) {
                boolean can = a >= -1 && a <= 7 && b >= -1 && b <= 7 && a != b;
                s.due("from " + a + " to " + b, x.road(a, b, 0), can ? made : -1);
                if (can) {
                    s.due("from", x.look(made, 0), a);
                    s.due("to", x.look(made, 1), b);
                    made++;
                }
            }
        }
    }

    private void prices() {
        s.terms("with a PRICE of a METER (0 to 9999 pence)");
        RoadCounts x = new RoadCounts();
        for (int price : NO_PRICES) {
            s.due("price " + price, x.road(0, 1, price), -1);
        }
        s.due("for nothing", x.road(0, 1, 0), 0);
        s.due("dearest", x.road(0, 1, 9999), 1);
        s.due("looked at", x.look(0, 2), 0);
        s.due("looked at", x.look(1, 2), 9999);
    }

    private void counted() {
        s.terms("how many went on a DAY (0 to 100000)");
        RoadCounts x = roads(1);
        for (int n : NO_COUNTS) {
            s.due("count " + n, x.count(0, 3, n), false);
            s.due("none came", x.look(0, 103), -1);
        }
        s.due("least", x.count(0, 3, 0), true);
        s.due("looked at", x.look(0, 103), 0);
        s.due("greatest", x.count(0, 3, 100000), true);
        s.due("looked at", x.look(0, 103), 100000);
        for (int n : NO_COUNTS) {
            s.due("anew " + n, x.count(0, 3, n), false);
            s.due("it stays", x.look(0, 103), 100000);
        }
    }

    private void fourteenDays() {
        s.terms("14 DAYS at most.");
        RoadCounts x = roads(12);
        for (int r = 0; r < 12; r += 11) {
            for (int i = 0; i < 14; i++) {
                s.due("counts", x.look(r, 4), i);
                s.due("day " + i, x.count(r, 26 * i, i), true);
            }
            s.due("a 15th", x.count(r, 363, 1), false);
            s.due("full", x.look(r, 4), 14);
            s.due("the refused is not there", x.look(r, 463), -1);
        }
        s.due("other roads are empty", x.look(5, 4), 0);
    }

    private void holidaysAreKept() {
        s.terms("Those on HOLIDAYS are kept, but not USED.");
        RoadCounts x = roads(1);
        x.holiday(0);
        s.due("told before", x.count(0, 0, 9), true);
        s.due("kept", x.look(0, 100), 9);
        s.due("in number", x.look(0, 4), 1);
        s.due("not used", x.look(0, 5), 0);
        s.due("no load", x.year(0), -1);
        x.count(0, 1, 5);
        s.due("the other is used", x.year(0), 5 * 364);
        x.holiday(1);
        s.due("told later", x.look(0, 5), 0);
        s.due("no load again", x.year(0), -1);
        s.due("kept", x.look(0, 101), 5);
        s.due("anew on a holiday", x.count(0, 1, 6), true);
        s.due("kept anew", x.look(0, 101), 6);
        for (int i = 2; i < 14; i++) {
            x.count(0, i, i);
        }
        s.due("it takes a place of the fourteen", x.count(0, 14, 1), false);
        s.due("all but two are used", x.look(0, 5), 12);
    }

    private void roundedDown() {
        s.terms("times THE WHOLE / SHARES of these DAYS together, rounded down.");
        RoadCounts x = roads(1);
        x.weekday(0, 0, 3);
        x.month(0, 0, 7);
        // the whole is 9 * 4 * 19 = 684; day 0 has 21, day 1 has 7, day 28 has 3
        x.count(0, 0, 1);
        s.due("684 / 21 is 32.57", x.year(0), 32);
        x.count(0, 0, 7);
        s.due("nothing to round", x.year(0), 228);
        x.count(0, 0, 6);
        s.due("4104 / 21 is 195.43", x.year(0), 195);
        x.count(0, 1, 1);
        s.due("7 * 684 / 28", x.year(0), 171);
        x.count(0, 1, 2);
        s.due("8 * 684 / 28 is 195.43", x.year(0), 195);
        x.count(0, 28, 0);
        s.due("8 * 684 / 31 is 176.52", x.year(0), 176);
        x.count(0, 0, 0);
        x.count(0, 1, 0);
        s.due("nothing went", x.year(0), 0);
    }

    private static void makeSharesFarApart(RoadCounts x) {
        for (int d = 1; d < 7; d++) {
            x.weekday(0, d, 99);
        }
        for (int m = 1; m < 13; m++) {
            x.month(0, m, 99);
        }
        for (int i = 4; i < 24; i++) {
            x.holiday(7 * i);
        }
    }

    private void loadsAboveAnInt() {
        s.terms("LOAD by COUNTS: all that were USED together");
        RoadCounts x = roads(1);
        makeSharesFarApart(x);
        long whole = 4L * 595 * 1189 + 20 * 98 * 99;
        s.due("the greatest whole beside a share of 1", x.whole(0), whole);
        x.count(0, 0, 100000);
        s.due("one day", x.year(0), 100000 * whole);
        s.due("its span", x.span(0, 1), 100000 * whole);
        s.due("known", x.load(0), 100000 * whole);
        s.due("balance", x.balance(0), 100000 * whole);
        x.count(0, 7, 100000);
        x.count(0, 14, 100000);
        x.count(0, 21, 99999);
        s.due("four days", x.year(0), 399999 * whole / 4);
        RoadCounts y = roads(1);
        for (int i = 0; i < 14; i++) {
            y.count(0, i, 100000);
        }
        s.due("fourteen full days", y.year(0), 36400000);
    }

    private void spanOfEachDay() {
        s.terms("THE SPAN: of each DAY that was USED by itself likewise; the least and the greatest.");
        RoadCounts x = roads(1);
        x.weekday(0, 0, 3);
        x.month(0, 0, 7);
        x.count(0, 0, 1);
        s.due("rounded down", x.span(0, 0), 32);
        s.due("one day is both", x.span(0, 1), 32);
        x.count(0, 7, 1);
        s.due("like days", x.span(0, 0), 32);
        s.due("like days", x.span(0, 1), 32);
        for (int i = 1; i <= 11; i++) {
            x.count(0, i == 7 ? 15 : i, 5);
        }
        x.count(0, 28, 300);
        s.due("the first is the least", x.span(0, 0), 32);
        s.due("the last is the greatest", x.span(0, 1), 300 * 684 / 3);
        x.count(0, 28, 0);
        s.due("the last is the least", x.span(0, 0), 0);
        s.due("one within is the greatest", x.span(0, 1), 5 * 684 / 7);
        x.count(0, 0, 100000);
        s.due("the first is the greatest", x.span(0, 1), 100000L * 684 / 21);
        x.holiday(0);
        x.holiday(28);
        // the whole loses 21 - 7 for day 0 and 3 - 1 for day 28
        s.due("holidays are not asked for the least", x.span(0, 0), 668 / 21);
        s.due("nor for the greatest", x.span(0, 1), 5 * 668 / 7);
    }

    private void withoutSign() {
        s.terms("the differences (without their sign) between the COUNT times all SHARES of these DAYS and the SHARE"
            + " times all COUNTS, together");
        RoadCounts x = roads(1);
        x.count(0, 0, 10);
        x.count(0, 1, 20);
        x.weekday(0, 0, 5);
        x.weekday(1, 1, 5);
        x.weekday(2, 0, 9);
        x.weekday(3, 0, 9);
        // with signs all would be 0 and the lowest the best; too few by day 0 is as far off as too many
        s.due("shape 1", x.best(0), 1);
        x.weekday(0, 0, 1);
        x.weekday(0, 1, 2);
        s.due("nothing is off", x.best(0), 0);
    }

    /** Misfits 40/4 and 60/9; without the one day that fits shape 1 they would be 20/4 and 60/9. */
    private void everyDayTogether() {
        int[][] weights = {{2, 1, 1}, {3, 2, 4}, {9, 1, 1}, {1, 1, 9}};
        for (int turn = 0; turn < 3; turn++) {
            RoadCounts x = roads(1);
            for (int day = 0; day < 3; day++) {
                x.count(0, day, 10);
                for (int shape = 0; shape < 4; shape++) {
                    x.weekday(shape, day, weights[shape][(day + turn) % 3]);
                }
            }
            s.due("the day at " + (3 - turn) % 3 + " counts", x.best(0), 1);
        }
    }

    /** Each shape is held against the best so far, with that one's own shares. */
    private void quotientsInARow() {
        int[][][] weights = {{{1, 1}, {45, 99}, {3, 5}, {1, 1}}, {{99, 50}, {1, 1}, {3, 5}, {1, 1}}};
        int[] due = {1, 2};
        for (int i = 0; i < 2; i++) {
            RoadCounts x = roads(1);
            x.count(0, 0, 10);
            x.count(0, 1, 20);
            for (int shape = 0; shape < 4; shape++) {
                x.weekday(shape, 0, weights[i][shape][0]);
                x.weekday(shape, 1, weights[i][shape][1]);
            }
            s.due("three misfits", x.best(0), due[i]);
        }
    }

    /** Misfits that only differ from the eleventh digit on. */
    private void notRounded() {
        s.terms("through all SHARES of these DAYS (not rounded).");
        RoadCounts x = roads(1);
        x.count(0, 0, 99772);
        x.count(0, 29, 99295);
        int[][] weights = {{87, 47, 45, 35}, {26, 47, 57, 55}, {1, 1, 99, 1}, {1, 1, 99, 1}};
        for (int shape = 0; shape < 4; shape++) {
            x.weekday(shape, 0, weights[shape][0]);
            x.month(shape, 0, weights[shape][1]);
            x.weekday(shape, 1, weights[shape][2]);
            x.month(shape, 1, weights[shape][3]);
        }
        s.due("a hair less", x.best(0), 1);
        RoadCounts y = roads(1);
        y.count(0, 0, 1);
        y.count(0, 1, 0);
        y.weekday(0, 0, 2);
        y.weekday(1, 0, 3);
        // misfits 2/3, 2/4, 1, 1
        s.due("both below 1", y.best(0), 1);
    }

    private void likeMisfits() {
        s.terms("that of the least MISFIT; of like ones the lowest.");
        RoadCounts x = roads(1);
        x.count(0, 0, 100000);
        s.due("one day fits all", x.best(0), 0);
        x.weekday(0, 0, 99);
        s.due("one day fits any weight", x.best(0), 0);
        x.count(0, 1, 100000);
        s.due("1 to 3 are like", x.best(0), 1);
        x.weekday(1, 0, 98);
        s.due("2 and 3 are like", x.best(0), 2);
        x.weekday(2, 0, 98);
        s.due("3 alone", x.best(0), 3);
        x.weekday(3, 0, 98);
        s.due("1 to 3 are like again", x.best(0), 1);
        x.count(0, 0, 0);
        x.count(0, 1, 0);
        s.due("counts of 0 fit all", x.best(0), 0);
        // misfits 4/6 and 2/3 beside 4/2, either way round
        for (int twice = 0; twice < 2; twice++) {
            RoadCounts y = roads(1);
            y.count(0, 0, 3);
            y.count(0, 1, 1);
            y.weekday(twice, 0, 4);
            y.weekday(twice, 1, 2);
            y.weekday(1 - twice, 0, 2);
            s.due("like quotients of unlike shares", y.best(0), 0);
        }
    }

    private void road() {
        s.promise(5, "its number; NONE: no such ones, a is b, 12 are there. (Its SHAPE is 0.)");
        RoadCounts x = new RoadCounts();
        for (int end : NO_ENDS) {
            s.due("from " + end, x.road(end, 0, 0), -1);
            s.due("to " + end, x.road(0, end, 0), -1);
            s.due("both " + end, x.road(end, end, 0), -1);
        }
        for (int price : NO_PRICES) {
            s.due("price " + price, x.road(0, 1, price), -1);
        }
        for (int end = -1; end < 8; end++) {
            s.due("a is b", x.road(end, end, 0), -1);
        }
        s.due("none came", x.tell(0), 0);
        for (int r = 0; r < 12; r++) {
            s.due("its number", x.road(r % 2, 2, r), r);
            s.due("its shape", x.look(r, 3), 0);
            s.due("roads", x.tell(0), r + 1);
        }
        s.due("12 are there", x.road(0, 2, 0), -1);
        s.due("roads", x.tell(0), 12);
    }

    private void shape() {
        s.promise(6, "The SHAPE of ROAD r: true; false: no such ones.");
        RoadCounts x = roads(3);
        for (int r : noRoads(3)) {
            s.due("road " + r, x.shape(r, 1), false);
        }
        for (int shape : new int[] {-1, 4, Sentences.MIN, Sentences.MAX}) {
            s.due("shape " + shape, x.shape(1, shape), false);
        }
        for (int r = 0; r < 3; r++) {
            s.due("nothing came", x.look(r, 3), 0);
        }
        s.due("the last road and shape", x.shape(2, 3), true);
        s.due("looked at", x.look(2, 3), 3);
        s.due("the first again", x.shape(2, 0), true);
        s.due("looked at", x.look(2, 3), 0);
    }

    private void count() {
        s.promise(7, "A COUNT of ROAD r on a DAY (anew, if there is one): true; false: no such ones, 14 other DAYS are there.");
        RoadCounts x = roads(2);
        for (int r : noRoads(2)) {
            s.due("road " + r, x.count(r, 0, 1), false);
        }
        for (int i = 0; i < 13; i++) {
            x.count(1, i, 1);
        }
        s.due("13 others are there", x.count(1, 363, 7), true);
        s.due("14 others are there", x.count(1, 362, 7), false);
        for (int day : new int[] {0, 12, 363}) {
            s.due("anew on " + day, x.count(1, day, 2 + day), true);
            s.due("it is new", x.look(1, 100 + day), 2 + day);
        }
        s.due("one within stays", x.look(1, 105), 1);
        s.due("still 14", x.look(1, 4), 14);
        s.due("all make the load", x.year(1), (11 + 2 + 14 + 365) * 364 / 14);
        s.due("refused anew", x.count(1, 0, 100001), false);
        s.due("it stays", x.look(1, 100), 2);
        s.due("the other road", x.look(0, 4), 0);
    }

    private void year() {
        s.promise(8, "LOAD by COUNTS of ROAD r; NONE: none were USED, no such one.");
        RoadCounts x = roads(2);
        for (int r : noRoads(2)) {
            s.due("road " + r, x.year(r), -1);
        }
        s.due("no counts", x.year(1), -1);
        x.holiday(4);
        x.count(1, 4, 8);
        s.due("a holiday's alone", x.year(1), -1);
        x.count(1, 5, 0);
        s.due("none went is a load", x.year(1), 0);
        s.due("the other road", x.year(0), -1);
    }

    private void span() {
        s.promise(9, "THE SPAN of ROAD r, what 0 the least, 1 the greatest; NONE: none were USED, others.");
        RoadCounts x = roads(2);
        for (int what = 0; what < 2; what++) {
            for (int r : noRoads(2)) {
                s.due("road " + r, x.span(r, what), -1);
            }
            s.due("no counts", x.span(1, what), -1);
        }
        x.holiday(4);
        x.count(1, 4, 8);
        s.due("a holiday's alone", x.span(1, 0), -1);
        s.due("a holiday's alone", x.span(1, 1), -1);
        x.count(1, 5, 0);
        s.due("none went is the least", x.span(1, 0), 0);
        s.due("and the greatest", x.span(1, 1), 0);
        x.count(1, 6, 1);
        s.due("the least", x.span(1, 0), 0);
        s.due("the greatest", x.span(1, 1), 364);
        for (int what : new int[] {-1, 2, Sentences.MIN, Sentences.MAX}) {
            s.due("what " + what, x.span(1, what), -1);
        }
    }

    private void best() {
        s.promise(10, "THE BEST SHAPE of ROAD r; NONE: none were USED, no such one.");
        RoadCounts x = roads(2);
        for (int r : noRoads(2)) {
            s.due("road " + r, x.best(r), -1);
        }
        s.due("no counts", x.best(1), -1);
        x.holiday(4);
        x.count(1, 4, 8);
        s.due("a holiday's alone", x.best(1), -1);
        x.count(1, 5, 0);
        s.due("none went", x.best(1), 0);
        x.shape(1, 3);
        s.due("its own shape is not asked", x.best(1), 0);
        s.due("the other road", x.best(0), -1);
    }

    private void look() {
        s.promise(22, "100 + day its COUNT on a DAY (NONE). NONE for others.");
        RoadCounts x = new RoadCounts();
        x.road(-1, 7, 9999);
        x.road(7, -1, 0);
        s.due("from outside", x.look(0, 0), -1);
        s.due("to", x.look(0, 1), 7);
        s.due("from", x.look(1, 0), 7);
        s.due("to outside", x.look(1, 1), -1);
        x.count(0, 0, 11);
        x.count(0, 363, 12);
        s.due("the first day", x.look(0, 100), 11);
        s.due("the last day", x.look(0, 463), 12);
        s.due("a day without", x.look(0, 101), -1);
        s.due("a day without", x.look(0, 462), -1);
        s.due("another road's day", x.look(1, 100), -1);
        int[] others = {-1, 6, 7, 50, 99, 464, 465, Sentences.MIN, Sentences.MIN + 99, Sentences.MIN + 100,
            Sentences.MAX - 99, Sentences.MAX};
        for (int what : others) {
            s.due("what " + what, x.look(0, what), -1);
        }
        for (int r : noRoads(2)) {
            for (int what : new int[] {0, 2, 3, 4, 5, 100}) {
                s.due("road " + r, x.look(r, what), -1);
            }
        }
    }
}
