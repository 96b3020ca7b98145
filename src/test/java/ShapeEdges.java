/** Boundary cases of days, weights, holidays and wholes. */
final class ShapeEdges {
    private static final int[] WEEK = {2, 3, 5, 7, 11, 13, 17};
    private static final int[] MONTHS = {19, 23, 29, 31, 37, 41, 43, 47, 53, 59, 61, 67, 71};
    private static final int[] NO_DAYS = {-1, 364, Sentences.MIN, Sentences.MAX};
    private static final int[] NO_SHAPES = {-1, 4, Sentences.MIN, Sentences.MAX};
    private static final int[] NO_WEIGHTS = {0, -1, 100, Sentences.MIN, Sentences.MAX};

    private final Sentences s;

    ShapeEdges(Sentences s) {
        this.s = s;
    }

    void all() {
        firstAndLastDay();
        everyDaysWeekday();
        everyDaysMonth();
        twentyHolidays();
        weightsAtFirst();
        weightsOfAllShapes();
        everyHoliday();
        leastAndGreatestWhole();
        wholeWithFullHolidays();
        none();
        objectsShareNothing();
        newObject();
        weekday();
        month();
        holiday();
        whole();
    }

    private static RoadCounts oneRoad() {
        RoadCounts x = new RoadCounts();
        x.road(-1, 0, 0);
        return x;
    }

    private void firstAndLastDay() {
        s.terms("A YEAR has DAYS 0 to 363");
        RoadCounts x = oneRoad();
        for (int day : new int[] {0, 363}) {
            s.due("count on " + day, x.count(0, day, 5 + day), true);
            s.due("look at " + day, x.look(0, 100 + day), 5 + day);
            s.due("holiday " + day, x.holiday(day), true);
        }
        for (int day : NO_DAYS) {
            s.due("count on " + day, x.count(0, day, 5), false);
            s.due("look at " + day, x.look(0, 100 + day), -1);
            s.due("holiday " + day, x.holiday(day), false);
        }
        s.due("counts", x.look(0, 4), 2);
        s.due("holidays", x.tell(1), 2);
    }

    /** A count like the day's share makes the whole; another share would make another load. */
    private void everyDaysWeekday() {
        s.terms("WEEKDAYS are DAY modulo 7");
        for (int day = 0; day < 364; day++) {
            RoadCounts x = oneRoad();
            for (int d = 0; d < 7; d++) {
                x.weekday(0, d, WEEK[d]);
            }
            x.count(0, day, WEEK[day % 7]);
            s.due("day " + day, x.year(0), 52 * (2 + 3 + 5 + 7 + 11 + 13 + 17));
        }
    }

    private void everyDaysMonth() {
        s.terms("MONTHS DAY / 28 (0 to 12)");
        for (int day = 0; day < 364; day++) {
            RoadCounts x = oneRoad();
            int sum = 0;
            for (int m = 0; m < 13; m++) {
                x.month(0, m, MONTHS[m]);
                sum += MONTHS[m];
            }
            x.count(0, day, MONTHS[day / 28]);
            s.due("day " + day, x.year(0), 28 * sum);
        }
    }

    private void twentyHolidays() {
        s.terms("HOLIDAYS are DAYS that are told (20 at most).");
        RoadCounts x = new RoadCounts();
        for (int i = 0; i < 20; i++) {
            s.due("not full at " + i, x.tell(1), i);
            s.due("holiday " + i, x.holiday(363 - i), true);
        }
        s.due("one more", x.holiday(0), false);
        s.due("full", x.tell(1), 20);
    }

    private void weightsAtFirst() {
        s.terms("(1 to 99; 1 at first)");
        RoadCounts x = oneRoad();
        x.holiday(0);
        for (int shape = 0; shape < 4; shape++) {
            s.due("whole of shape " + shape, x.whole(shape), 364);
        }
        for (int n : new int[] {1, 99}) {
            s.due("weekday " + n, x.weekday(2, 3, n), true);
            s.due("its whole", x.whole(2), 364 + 52 * (n - 1));
            s.due("month", x.month(1, 3, n), true);
            s.due("its whole", x.whole(1), 364 + 28 * (n - 1));
        }
        for (int n : NO_WEIGHTS) {
            s.due("weekday " + n, x.weekday(2, 3, n), false);
            s.due("month " + n, x.month(1, 3, n), false);
        }
        s.due("weekday stays", x.whole(2), 364 + 52 * 98);
        s.due("month stays", x.whole(1), 364 + 28 * 98);
    }

    /** Every weight is its own: shapes, weekdays and months do not run into one another. */
    private void weightsOfAllShapes() {
        s.terms("SHAPES 0 to 3, each with a WEIGHT for each WEEKDAY and for each MONTH");
        for (int shape = 0; shape < 4; shape++) {
            for (int d = 0; d < 7; d++) {
                RoadCounts x = new RoadCounts();
                s.due("weekday " + d, x.weekday(shape, d, 99), true);
                onlyWhole(x, shape, 364 + 52 * 98);
            }
            for (int m = 0; m < 13; m++) {
                RoadCounts x = new RoadCounts();
                s.due("month " + m, x.month(shape, m, 99), true);
                onlyWhole(x, shape, 364 + 28 * 98);
            }
        }
    }

    private void onlyWhole(RoadCounts x, int shape, int whole) {
        for (int other = 0; other < 4; other++) {
            s.due("whole of " + other, x.whole(other), other == shape ? whole : 364);
        }
    }

    private void everyHoliday() {
        s.terms("(of a HOLIDAY: of WEEKDAY 6) times that of its MONTH");
        for (int day = 0; day < 364; day++) {
            RoadCounts x = new RoadCounts();
            for (int d = 0; d < 7; d++) {
                x.weekday(3, d, WEEK[d]);
            }
            for (int m = 0; m < 13; m++) {
                x.month(3, m, MONTHS[m]);
            }
            long before = x.whole(3);
            x.holiday(day);
            s.due("day " + day, x.whole(3) - before, (17 - WEEK[day % 7]) * MONTHS[day / 28]);
        }
    }

    private void leastAndGreatestWhole() {
        s.terms("THE WHOLE of a SHAPE: SHARES of all DAYS together.");
        RoadCounts x = new RoadCounts();
        s.due("least", x.whole(0), 364);
        for (int d = 0; d < 7; d++) {
            x.weekday(0, d, 99);
        }
        s.due("weekdays alone", x.whole(0), 364 * 99);
        for (int m = 0; m < 13; m++) {
            x.month(0, m, 99);
        }
        s.due("greatest", x.whole(0), 364 * 99 * 99);
    }

    /** A weight told after the holidays counts for them as well, and all twenty count. */
    private void wholeWithFullHolidays() {
        RoadCounts x = new RoadCounts();
        for (int i = 0; i < 20; i++) {
            x.holiday(7 * i);
        }
        s.due("like weights", x.whole(0), 364);
        x.weekday(0, 6, 99);
        s.due("weekday 6 later", x.whole(0), 292 + 72 * 99);
        x.weekday(0, 0, 10);
        s.due("their own weekday is not asked", x.whole(0), 260 + 32 * 10 + 72 * 99);
        x.month(0, 0, 2);
        s.due("their month", x.whole(0), 260 + 32 * 10 + 72 * 99 + 20 + 8 * 99);
    }

    private void none() {
        s.terms("`NONE = -1`: There is none.");
        s.due("NONE", RoadCounts.NONE, -1);
    }

    private void objectsShareNothing() {
        s.terms("All memory is the counter's own.");
        RoadCounts x = oneRoad();
        RoadCounts y = oneRoad();
        x.weekday(0, 0, 9);
        x.month(0, 0, 9);
        x.holiday(5);
        x.count(0, 6, 7);
        Check.rules(x, "0:1-1");
        Check.pass(x, 0, 1);
        x.feed(1, 1, 1, 1, 1);
        s.due("weights", y.whole(0), 364);
        s.due("counts", y.look(0, 4), 0);
        s.due("kinds", y.kinds(0, 0), 0);
        for (int what = 1; what <= 5; what++) {
            s.due("tell " + what, y.tell(what), what == 5 ? 1 : 0);
        }
        s.due("a later one", new RoadCounts().whole(0), 364);
    }

    private void newObject() {
        s.promise(1, "No ROADS, HOLIDAYS, RULES; all WEIGHTS 1.");
        RoadCounts x = new RoadCounts();
        for (int what = 0; what <= 5; what++) {
            s.due("tell " + what, x.tell(what), 0);
        }
        s.due("no road", x.look(0, 0), -1);
        s.due("no meters are needed", x.plan(), 0);
        s.due("an empty tape", x.rules(1), -1);
        for (int shape = 0; shape < 4; shape++) {
            s.due("whole", x.whole(shape), 364);
        }
        s.due("the first road is 0", x.road(0, 1, 0), 0);
        s.due("without counts", x.look(0, 4), 0);
        for (int kind = 0; kind <= 9; kind++) {
            s.due("none has passed", x.kinds(0, kind), 0);
        }
        s.due("a vehicle", Check.pass(x, 0, 1), 1);
        s.due("no rules", x.kinds(0, 9), 1);
    }

    private void weekday() {
        s.promise(2, "true; false: no such ones.");
        RoadCounts x = new RoadCounts();
        for (int shape : new int[] {0, 3}) {
            s.due("weekday 0", x.weekday(shape, 0, 99), true);
            s.due("weekday 6", x.weekday(shape, 6, 1), true);
        }
        for (int shape : NO_SHAPES) {
            s.due("shape " + shape, x.weekday(shape, 1, 2), false);
        }
        for (int day : new int[] {-1, 7, 12, 13, Sentences.MIN, Sentences.MAX}) {
            s.due("weekday " + day, x.weekday(1, day, 2), false);
        }
        for (int n : NO_WEIGHTS) {
            s.due("weight " + n, x.weekday(1, 1, n), false);
        }
        s.due("shape 0", x.whole(0), 364 + 52 * 98);
        s.due("shape 1 stays", x.whole(1), 364);
        s.due("shape 2 stays", x.whole(2), 364);
        s.due("shape 3", x.whole(3), 364 + 52 * 98);
    }

    private void month() {
        s.promise(3, "true; false: no such ones.");
        RoadCounts x = new RoadCounts();
        for (int shape : new int[] {0, 3}) {
            s.due("month 0", x.month(shape, 0, 99), true);
            s.due("month 12", x.month(shape, 12, 1), true);
        }
        for (int shape : NO_SHAPES) {
            s.due("shape " + shape, x.month(shape, 1, 2), false);
        }
        for (int month : new int[] {-1, 13, Sentences.MIN, Sentences.MAX}) {
            s.due("month " + month, x.month(1, month, 2), false);
        }
        for (int n : NO_WEIGHTS) {
            s.due("weight " + n, x.month(1, 1, n), false);
        }
        s.due("shape 0", x.whole(0), 364 + 28 * 98);
        s.due("shape 1 stays", x.whole(1), 364);
        s.due("shape 2 stays", x.whole(2), 364);
        s.due("shape 3", x.whole(3), 364 + 28 * 98);
    }

    private void holiday() {
        s.promise(4, "A HOLIDAY: true; false: no such DAY, it is one, 20 are there.");
        RoadCounts x = oneRoad();
        for (int day : NO_DAYS) {
            s.due("no such day", x.holiday(day), false);
        }
        s.due("none came", x.tell(1), 0);
        s.due("the first", x.holiday(50), true);
        s.due("it is one", x.holiday(50), false);
        s.due("one came", x.tell(1), 1);
        for (int day = 100; day < 118; day++) {
            x.holiday(day);
        }
        s.due("the 20th", x.holiday(363), true);
        s.due("it is one", x.holiday(363), false);
        s.due("20 are there", x.holiday(0), false);
        s.due("no such day and full", x.holiday(364), false);
        x.count(0, 0, 1);
        s.due("the refused day is none", x.look(0, 5), 1);
        x.count(0, 363, 1);
        s.due("the 20th is one", x.look(0, 5), 1);
    }

    private void whole() {
        s.promise(21, "THE WHOLE of a SHAPE; NONE: no such one.");
        RoadCounts x = new RoadCounts();
        for (int shape : NO_SHAPES) {
            s.due("shape " + shape, x.whole(shape), -1);
        }
        s.due("shape 0", x.whole(0), 364);
        s.due("shape 3", x.whole(3), 364);
    }
}
