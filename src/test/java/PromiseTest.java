/** Each promise by itself: ordinary inputs, the edges that the document names, wrong inputs. */
public final class PromiseTest {
    private static final Check check = new Check();
    private static final int MIN = Integer.MIN_VALUE;
    private static final int MAX = Integer.MAX_VALUE;

    public static void main(String[] args) {
        newObject();
        weekday();
        month();
        holiday();
        road();
        shape();
        count();
        year();
        span();
        best();
        how();
        load();
        balances();
        balance();
        does();
        plan();
        feed();
        rules();
        ruleFaults();
        rulesAndTape();
        pass();
        passByClauses();
        kinds();
        whole();
        look();
        tell();
        check.end("PromiseTest");
    }

    private static void newObject() {
        RoadCounts x = new RoadCounts();
        check.due("1 NONE", RoadCounts.NONE, -1);
        for (int what = 0; what <= 5; what++) {
            check.due("1 tell " + what, x.tell(what), 0);
        }
        for (int s = 0; s < 4; s++) {
            check.due("1 whole " + s, x.whole(s), 364);
        }
        x.road(-1, 0, 0);
        RoadCounts other = new RoadCounts();
        check.due("1 objects share nothing", other.tell(0), 0);
    }

    private static void weekday() {
        RoadCounts x = new RoadCounts();
        check.due("2 weekday 0", x.weekday(0, 0, 99), true);
        check.due("2 whole", x.whole(0), 364 + 98 * 52);
        check.due("2 other shapes", x.whole(1), 364);
        check.due("2 weekday 6", x.weekday(3, 6, 2), true);
        check.due("2 whole 3", x.whole(3), 364 + 52);
        check.due("2 least", x.weekday(0, 0, 1), true);
        check.due("2 whole anew", x.whole(0), 364);
        int[][] wrong = {{-1, 0, 1}, {4, 0, 1}, {0, -1, 1}, {0, 7, 1}, {0, 0, 0}, {0, 0, 100}, {0, 0, -5},
            {MIN, 0, 2}, {MAX, 0, 2}, {0, MIN, 2}, {0, MAX, 2}, {0, 0, MIN}, {0, 0, MAX}};
        for (int[] w : wrong) {
            check.due("2 wrong", x.weekday(w[0], w[1], w[2]), false);
        }
        check.due("2 refused changes nothing", x.whole(0), 364);
    }

    private static void month() {
        RoadCounts x = new RoadCounts();
        check.due("3 month 0", x.month(2, 0, 99), true);
        check.due("3 whole", x.whole(2), 364 + 98 * 28);
        check.due("3 month 12", x.month(2, 12, 2), true);
        check.due("3 whole", x.whole(2), 364 + 99 * 28);
        x.road(-1, 0, 0);
        x.shape(0, 2);
        x.count(0, 27, 99);
        check.due("3 last day of month 0", x.year(0), 364 + 99 * 28);
        x.count(0, 27, 0);
        x.count(0, 28, 1);
        check.due("3 first day of month 1", x.span(0, 1), 364 + 99 * 28);
        int[][] wrong = {{-1, 0, 1}, {4, 0, 1}, {2, -1, 1}, {2, 13, 1}, {2, 0, 0}, {2, 0, 100},
            {MIN, 0, 2}, {MAX, 0, 2}, {2, MIN, 2}, {2, MAX, 2}, {2, 0, MIN}, {2, 0, MAX}};
        for (int[] w : wrong) {
            check.due("3 wrong", x.month(w[0], w[1], w[2]), false);
        }
        check.due("3 refused changes nothing", x.whole(2), 364 + 99 * 28);
    }

    private static void holiday() {
        RoadCounts x = new RoadCounts();
        x.weekday(0, 6, 11);
        x.month(0, 12, 3);
        long before = x.whole(0);
        check.due("4 a weekday 6", x.holiday(363), true);
        check.due("4 whole stays", x.whole(0), before);
        check.due("4 day 357", x.holiday(357), true);
        check.due("4 whole grows", x.whole(0), before + 30);
        check.due("4 again", x.holiday(357), false);
        for (int day : new int[] {-1, 364, MIN, MAX}) {
            check.due("4 no such day", x.holiday(day), false);
        }
        for (int day = 0; day < 18; day++) {
            check.due("4 day " + day, x.holiday(day), true);
        }
        check.due("4 a 21st", x.holiday(100), false);
        check.due("4 holidays", x.tell(1), 20);
        x.road(0, 1, 1);
        x.count(0, 100, 5);
        check.due("4 the refused is none", x.look(0, 5), 1);
    }

    private static void road() {
        RoadCounts x = new RoadCounts();
        int[][] wrong = {{-1, -1, 0}, {3, 3, 0}, {-2, 0, 0}, {0, -2, 0}, {8, 0, 0}, {0, 8, 0}, {0, 1, -1},
            {0, 1, 10000}, {MIN, 0, 0}, {MAX, 0, 0}, {0, MIN, 0}, {0, MAX, 0}, {0, 1, MIN}, {0, 1, MAX}};
        for (int[] w : wrong) {
            check.due("5 wrong", x.road(w[0], w[1], w[2]), -1);
        }
        check.due("5 none came", x.tell(0), 0);
        check.due("5 from outside", x.road(-1, 7, 9999), 0);
        check.due("5 to outside", x.road(7, -1, 0), 1);
        for (int i = 2; i < 12; i++) {
            check.due("5 road " + i, x.road(0, 7, i), i);
        }
        check.due("5 a 13th", x.road(0, 7, 1), -1);
        check.due("5 roads", x.tell(0), 12);
        check.due("5 from", x.look(0, 0), -1);
        check.due("5 to", x.look(0, 1), 7);
        check.due("5 price", x.look(0, 2), 9999);
        check.due("5 shape", x.look(0, 3), 0);
        check.due("5 wrong when full", x.road(0, 0, 1), -1);
    }

    private static void shape() {
        RoadCounts x = new RoadCounts();
        check.due("6 no road", x.shape(0, 0), false);
        x.road(0, 1, 0);
        x.road(0, 1, 0);
        x.weekday(3, 0, 4);
        x.count(1, 1, 10);
        check.due("6 shape 3", x.shape(1, 3), true);
        check.due("6 looked at", x.look(1, 3), 3);
        check.due("6 the other", x.look(0, 3), 0);
        check.due("6 load by it", x.year(1), 10 * (364 + 3 * 52));
        for (int s : new int[] {-1, 4, MIN, MAX}) {
            check.due("6 no such shape", x.shape(1, s), false);
        }
        for (int r : new int[] {-1, 2, 12, MIN, MAX}) {
            check.due("6 no such road", x.shape(r, 0), false);
        }
        check.due("6 it stays", x.look(1, 3), 3);
    }

    private static void count() {
        RoadCounts x = new RoadCounts();
        check.due("7 no road", x.count(0, 0, 0), false);
        x.road(0, 1, 0);
        x.road(0, 1, 0);
        int[][] wrong = {{-1, 0, 0}, {2, 0, 0}, {0, -1, 0}, {0, 364, 0}, {0, 0, -1}, {0, 0, 100001},
            {MIN, 0, 0}, {MAX, 0, 0}, {0, MIN, 0}, {0, MAX, 0}, {0, 0, MIN}, {0, 0, MAX}};
        for (int[] w : wrong) {
            check.due("7 wrong", x.count(w[0], w[1], w[2]), false);
        }
        check.due("7 none came", x.look(0, 4), 0);
        x.holiday(10);
        for (int day = 0; day < 14; day++) {
            check.due("7 day " + day, x.count(0, day * 5, 100000 - day), true);
        }
        check.due("7 a 15th day", x.count(0, 363, 1), false);
        check.due("7 anew", x.count(0, 65, 0), true);
        check.due("7 anew stands", x.look(0, 165), 0);
        check.due("7 a holiday's counts", x.look(0, 4), 14);
        check.due("7 but is not used", x.look(0, 5), 13);
        check.due("7 other road", x.count(1, 363, 100000), true);
        check.due("7 its count", x.look(1, 463), 100000);
        check.due("7 not on the first", x.look(0, 463), -1);
    }

    private static void year() {
        RoadCounts x = new RoadCounts();
        check.due("8 no road", x.year(0), -1);
        x.road(0, 1, 0);
        check.due("8 no counts", x.year(0), -1);
        x.weekday(0, 0, 2);
        x.count(0, 0, 5);
        check.due("8 rounded down once", x.year(0), 5 * 416 / 2);
        x.count(0, 1, 2);
        check.due("8 two days", x.year(0), 7 * 416 / 3);
        x.holiday(2);
        x.count(0, 2, 9999);
        check.due("8 not by holidays", x.year(0), 7 * 416 / 3);
        x.holiday(0);
        x.holiday(1);
        check.due("8 holidays alone", x.year(0), -1);
        x.count(0, 3, 0);
        check.due("8 a count of 0", x.year(0), 0);
        for (int r : new int[] {-1, 1, 12, MIN, MAX}) {
            check.due("8 no such road", x.year(r), -1);
        }
        RoadCounts big = new RoadCounts();
        big.road(0, 1, 0);
        for (int d = 1; d < 7; d++) {
            big.weekday(0, d, 99);
        }
        for (int m = 1; m < 13; m++) {
            big.month(0, m, 99);
        }
        big.count(0, 0, 100000);
        long all = 4L * (1 + 6 * 99) * (1 + 12 * 99);
        check.due("8 the greatest", big.year(0), 100000 * all);
    }

    private static void span() {
        RoadCounts x = new RoadCounts();
        check.due("9 no road", x.span(0, 0), -1);
        x.road(0, 1, 0);
        check.due("9 no counts", x.span(0, 0), -1);
        x.weekday(0, 0, 3);
        x.count(0, 0, 10);
        check.due("9 one day, least", x.span(0, 0), 10 * 468 / 3);
        check.due("9 one day, greatest", x.span(0, 1), 10 * 468 / 3);
        x.count(0, 1, 4);
        x.count(0, 7, 5);
        check.due("9 least", x.span(0, 0), 5 * 468 / 3);
        check.due("9 greatest", x.span(0, 1), 4 * 468);
        x.holiday(7);
        check.due("9 without the holiday", x.span(0, 0), 10 * 468 / 3 - 10 * 2 / 3 - 1);
        for (int what : new int[] {-1, 2, MIN, MAX}) {
            check.due("9 others", x.span(0, what), -1);
        }
        for (int r : new int[] {-1, 1, MIN, MAX}) {
            check.due("9 no such road", x.span(r, 0), -1);
        }
        x.count(0, 2, 0);
        check.due("9 a count of 0", x.span(0, 0), 0);
        x.holiday(0);
        x.holiday(1);
        x.holiday(2);
        check.due("9 holidays alone", x.span(0, 1), -1);
    }

    private static void best() {
        RoadCounts x = new RoadCounts();
        check.due("10 no road", x.best(0), -1);
        x.road(0, 1, 0);
        check.due("10 no counts", x.best(0), -1);
        x.count(0, 0, 10);
        x.count(0, 1, 30);
        check.due("10 like ones", x.best(0), 0);
        x.weekday(1, 1, 3);
        x.weekday(3, 1, 3);
        check.due("10 of the least ones the lowest", x.best(0), 1);
        x.weekday(1, 1, 4);
        check.due("10 the exact one", x.best(0), 3);
        check.due("10 the road's shape stays", x.look(0, 3), 0);
        x.holiday(1);
        check.due("10 holidays are not used", x.best(0), 0);
        x.holiday(0);
        check.due("10 holidays alone", x.best(0), -1);
        for (int r : new int[] {-1, 1, MIN, MAX}) {
            check.due("10 no such road", x.best(r), -1);
        }
        bestIsDividedAndNotRounded();
    }

    private static void bestIsDividedAndNotRounded() {
        RoadCounts x = new RoadCounts();
        x.road(0, 1, 0);
        x.count(0, 0, 1);
        x.count(0, 1, 1);
        x.weekday(0, 0, 99);
        x.weekday(0, 1, 50);
        x.weekday(1, 0, 2);
        check.due("10 divided by the shares", x.best(0), 2);
        x.weekday(2, 0, 3);
        x.weekday(3, 0, 4);
        // misfits 98/149, 2/3, 4/4 and 6/5: the quotient tells, and not its whole part
        check.due("10 not rounded", x.best(0), 0);
        RoadCounts y = new RoadCounts();
        y.road(0, 1, 0);
        for (int day = 0; day < 7; day++) {
            y.count(0, day, 10 + 10 * day);
            y.weekday(2, day, 1 + day);
            y.weekday(3, day, 7 - day);
        }
        y.weekday(1, 6, 9);
        check.due("10 seven days", y.best(0), 2);
        int[][] weights = {{2, 1, 1}, {3, 2, 4}, {9, 1, 1}, {1, 1, 9}};
        RoadCounts z = new RoadCounts();
        z.road(0, 1, 0);
        for (int day = 0; day < 3; day++) {
            z.count(0, day, 10);
            for (int s = 0; s < 4; s++) {
                z.weekday(s, day, weights[s][day]);
            }
        }
        // misfits 40/4 and 60/9; without the first day they would be 20/4 and 60/9
        check.due("10 the first day counts", z.best(0), 1);
    }

    private static void how() {
        RoadCounts x = new RoadCounts();
        check.due("11 no road", x.how(0), -1);
        x.road(-1, 0, 0);
        x.road(0, 1, 0);
        x.road(1, -1, 0);
        x.road(2, 3, 0);
        x.road(3, 2, 0);
        x.road(3, 2, 0);
        check.due("11 neither", x.how(0), 2);
        x.count(2, 5, 1);
        check.due("11 known", x.how(2), 0);
        check.due("11 follows", x.how(1), 1);
        check.due("11 follows by a second round", x.how(0), 1);
        x.count(4, 5, 1);
        check.due("11 two are open", x.how(3), 2);
        x.holiday(5);
        check.due("11 holidays are not used", x.how(2), 2);
        check.due("11 nothing follows", x.how(0), 2);
        for (int r : new int[] {-1, 6, 31, 32, MIN, MAX}) {
            check.due("11 no such road", x.how(r), -1);
        }
    }

    private static void load() {
        RoadCounts x = new RoadCounts();
        x.road(-1, 0, 0);
        x.road(0, 1, 0);
        x.road(0, -1, 0);
        check.due("12 it has none", x.load(0), 0);
        x.count(0, 0, 10);
        check.due("12 known", x.load(0), 3640);
        x.count(2, 0, 30);
        check.due("12 below 0", x.load(1), -20 * 364);
        x.shape(0, 1);
        x.weekday(1, 1, 2);
        check.due("12 by the road's shape", x.load(0), 10 * 416);
        check.due("12 follows anew", x.load(1), 10 * 416 - 30 * 364);
        for (int r : new int[] {-1, 3, 32, MIN, MAX}) {
            check.due("12 no such road", x.load(r), 0);
        }
        orderOfJunctions();
    }

    /** Road 1 could follow at junction 0 or at 1, which disagree: the lower is asked first. */
    private static void orderOfJunctions() {
        RoadCounts x = new RoadCounts();
        x.road(-1, 0, 0);
        x.road(0, 1, 0);
        x.road(1, -1, 0);
        x.count(0, 0, 10);
        x.count(2, 0, 7);
        check.due("12 by junction 0", x.load(1), 3640);
        // Junction 2 tells road 0. Junctions 3 and 1 could then tell road 1: the round goes on to 3.
        RoadCounts y = new RoadCounts();
        y.road(2, 1, 0);
        y.road(1, 3, 0);
        y.road(3, -1, 0);
        y.road(-1, 2, 0);
        y.road(2, 3, 0);
        y.count(2, 0, 7);
        y.count(3, 0, 10);
        y.count(4, 0, 4);
        check.due("12 told by junction 2", y.load(0), 6 * 364);
        check.due("12 the round goes on", y.load(1), 3 * 364);
        check.due("12 and junction 1 is off", y.balance(1), 3 * 364);
    }

    private static void balances() {
        RoadCounts x = new RoadCounts();
        check.due("13 no roads", x.balances(0), 1);
        x.road(-1, 0, 0);
        x.road(0, 7, 0);
        x.road(7, -1, 0);
        x.road(-1, 7, 0);
        check.due("13 not all", x.balances(0), 0);
        x.count(0, 0, 1);
        check.due("13 all by following", x.balances(0), 1);
        check.due("13 two are open", x.balances(7), 0);
        x.count(3, 0, 1);
        check.due("13 then all", x.balances(7), 1);
        check.due("13 a junction without roads", x.balances(6), 1);
        for (int j : new int[] {-1, 8, MIN, MAX}) {
            check.due("13 no such junction", x.balances(j), -1);
        }
    }

    private static void balance() {
        RoadCounts x = new RoadCounts();
        check.due("14 no roads", x.balance(3), 0);
        x.road(-1, 3, 0);
        x.road(3, -1, 0);
        x.road(3, 4, 0);
        x.count(0, 0, 10);
        x.count(1, 0, 4);
        check.due("14 it follows", x.balance(3), 0);
        x.count(2, 0, 5);
        check.due("14 in less out", x.balance(3), 364);
        check.due("14 the other end", x.balance(4), 5 * 364);
        x.count(2, 0, 8);
        check.due("14 below 0", x.balance(3), -2 * 364);
        x.road(3, 5, 0);
        x.road(3, 5, 0);
        check.due("14 it has none", x.balance(3), 0);
        for (int j : new int[] {-1, 8, MIN, MAX}) {
            check.due("14 no such junction", x.balance(j), 0);
        }
    }

    private static void does() {
        RoadCounts x = new RoadCounts();
        check.due("15 no roads", x.does(0), 1);
        check.due("15 no such road", x.does(1), -1);
        x.road(-1, 0, 1);
        x.road(0, -1, 1);
        x.road(0, 1, 1);
        x.count(0, 0, 1);
        x.count(1, 0, 1);
        check.due("15 counts are not asked", x.does(0), 0);
        check.due("15 one is enough", x.does(1), 1);
        check.due("15 the dead end follows", x.does(4), 0);
        check.due("15 all", x.does(7), 1);
        for (int set : new int[] {8, 9, -1, MIN, MAX}) {
            check.due("15 no such roads", x.does(set), -1);
        }
        for (int i = 3; i < 12; i++) {
            x.road(0, 1, 1);
        }
        check.due("15 all of twelve", x.does(4095), 1);
        check.due("15 a 13th", x.does(4096), -1);
    }

    private static void plan() {
        RoadCounts x = new RoadCounts();
        check.due("16 no roads", x.plan(), 0);
        x.road(0, 1, 3);
        check.due("16 a dead end", x.plan(), 0);
        x.road(1, 0, 5);
        check.due("16 the cheaper", x.plan(), 1);
        x.road(1, 0, 3);
        check.due("16 of like ones the least bits", x.plan(), 5);
        x.count(0, 0, 1);
        x.count(1, 0, 1);
        check.due("16 counts are not asked", x.plan(), 5);
        RoadCounts y = new RoadCounts();
        y.road(0, 1, 0);
        y.road(1, 0, 0);
        y.road(1, 0, 0);
        y.road(-1, 0, 0);
        check.due("16 fewest roads for nothing", y.plan(), 3);
        RoadCounts z = new RoadCounts();
        z.road(-1, 2, 9999);
        z.road(2, 3, 1);
        z.road(3, -1, 0);
        check.due("16 the first is dear", z.plan(), 4);
        z.road(2, -1, 9999);
        check.due("16 one of two dear ones", z.plan(), 5);
    }

    private static void feed() {
        RoadCounts x = new RoadCounts();
        for (int i = 1; i <= 6; i++) {
            check.due("17 feed " + i, x.feed(1, 2, 3, 4, 5), 20 * i);
        }
        check.due("17 more than 120", x.feed(1, 2, 3, 4, 5), -1);
        check.due("17 it stays", x.tell(3), 120);
        x.road(0, 1, 0);
        check.due("17 zeros between", x.pass(0, 120), 30);
        check.due("17 empty then", x.tell(3), 0);
        Check.rules(x, "0:1-1,2-2,3-3,255-255");
        x.feed(0x010203FF, 0x00000000, 0, 0, 0);
        check.due("17 the highest first", x.pass(0, 4), 1);
        check.due("17 bytes have no sign", x.kinds(0, 0), 1);
        Check.rules(x, "1:1-1,2-2,3-3,4-4;2:5-5");
        x.feed(0x01000200, 0x01020304, 0x00050000, 0x00000100, 0x000000FF);
        check.due("17 all five in order", x.pass(0, 20), 6);
        check.due("17 across two ints", x.kinds(0, 1), 1);
        check.due("17 the third", x.kinds(0, 2), 1);
    }

    private static void rules() {
        RoadCounts x = new RoadCounts();
        check.due("18 one clause", Check.rules(x, "0:1-2"), 0);
        check.due("18 clauses", x.tell(2), 1);
        check.due("18 the tape is empty", x.tell(3), 0);
        check.due("18 four spans", Check.rules(x, "8:0-0,000-255,7-7,12-123;8:001-001"), 0);
        check.due("18 clauses", x.tell(2), 2);
        String nine = "0:1-1;1:1-1;2:1-1;3:1-1;4:1-1;5:1-1;6:1-1;7:1-1;8:1-1";
        check.due("18 nine clauses", Check.rules(x, nine), 0);
        check.due("18 clauses", x.tell(2), 9);
        check.due("18 none", x.rules(0), 0);
        check.due("18 no clauses", x.tell(2), 0);
        check.due("18 120 bytes", Check.rules(x, "0:100-200,100-200,100-200,100-200;"
            + "0:100-200,100-200,100-200,100-200;0:100-200,100-200,100-200,100-200;0:10-200,100-200"), 0);
        check.due("18 clauses", x.tell(2), 4);
    }

    private static void ruleFaults() {
        String eight = "0:1-1;1:1-1;2:1-1;3:1-1;4:1-1;5:1-1;6:1-1;7:1-1;";
        Object[][] faults = {
            {"x", 100}, {":", 100}, {";", 100}, {" 0:1-1", 100}, {"00:1-1", 101}, {"0", 101}, {"0;", 101},
            {"0:", 102}, {"0:-1", 102}, {"0:,", 102}, {"0:;", 102}, {"0:1", 103}, {"0:1,", 103}, {"0:1;", 103},
            {"0:1234-5", 105}, {"0:9999-5", 105}, {"0:1-", 104}, {"0:1--", 104}, {"0:1-;", 104},
            {"0:1-1234", 107}, {"0:1-9999", 107}, {"0:1-1-", 105}, {"0:1-1:", 105}, {"0:1-1 ", 105},
            {"0:1-1,", 106}, {"0:1-1;", 106}, {"0:1-1,;", 106}, {"0:1-1;;", 106}, {"0:1-1;,", 106},
            {"0:1-1,1-1,1-1,1-1,", 117}, {"0:1-1,1-1,1-1,1-1,1-1", 117}, {"0:1-1,1-1,1-1,1-1;", 118},
            {"9", 200}, {"9:1-1", 200}, {"9x", 200}, {"0:1-1;9:1-1", 206},
            {"0:256-256", 302}, {"0:256", 302}, {"0:999x", 302}, {"0:1-256", 304}, {"0:1-256x", 304},
            {"0:2-1", 304}, {"0:255-254", 306}, {"0:20-3;9", 305}, {"0:1-1,2-1", 308}, {"0:1-1;1:3-2", 310},
            {"0:5-2 ", 304}, {"0:5-2", 304}, {"0:256-1", 302},
            {eight + "8:1-1;0:1-1", 454}, {eight + "8:1-1;0", 454}, {eight + "8:1-1;9:1-1", 454},
            {eight + "8:1-1;", 154}, {eight + "8:1-1;x", 154}, {eight + "9:1-1;0", 248},
            {"0:1-1" + (char) 0, 105}, {"0:1-" + (char) 0xB1, 104},
        };
        RoadCounts x = new RoadCounts();
        x.road(0, 1, 0);
        Check.rules(x, "3:7-9;4:1-6");
        for (Object[] f : faults) {
            check.due("18 '" + f[0] + "'", Check.rules(x, (String) f[0]), (Integer) f[1]);
            check.due("18 the tape is empty", x.tell(3), 0);
            check.due("18 rules stay", x.tell(2), 2);
        }
        Check.pass(x, 0, 8, 0, 5);
        check.due("18 rules stay whole", x.kinds(0, 3) * 10 + x.kinds(0, 4), 11);
    }

    private static void rulesAndTape() {
        RoadCounts x = new RoadCounts();
        check.due("18 an empty tape", x.rules(1), -1);
        Check.feed(x, Check.bytes("0:1-1"));
        for (int n : new int[] {-1, 21, MIN, MAX}) {
            check.due("18 not so many", x.rules(n), -1);
            check.due("18 the tape stays", x.tell(3), 20);
        }
        check.due("18 the first of the tape", x.rules(5), 0);
        check.due("18 empty then", x.tell(3), 0);
        Check.feed(x, Check.bytes("0:1-1"));
        check.due("18 none of many", x.rules(0), 0);
        check.due("18 no rules", x.tell(2), 0);
        check.due("18 empty by none", x.tell(3), 0);
        Check.feed(x, Check.bytes("0:1-1;9"));
        check.due("18 nothing behind the first is read", x.rules(5), 0);
        Check.feed(x, Check.bytes("0:1-2561"));
        check.due("18 no digit behind them either", x.rules(6), 0);
    }

    private static void pass() {
        RoadCounts x = new RoadCounts();
        x.feed(1, 1, 1, 1, 1);
        check.due("19 no road", x.pass(0, 1), -1);
        check.due("19 the tape stays", x.tell(3), 20);
        x.road(0, 1, 0);
        for (int n : new int[] {-1, 21, MIN, MAX}) {
            check.due("19 not so many", x.pass(0, n), -1);
        }
        for (int r : new int[] {-1, 1, MIN, MAX}) {
            check.due("19 no such road", x.pass(r, 1), -1);
        }
        check.due("19 the tape stays", x.tell(3), 20);
        check.due("19 nothing", x.pass(0, 0), 0);
        check.due("19 empty then", x.tell(3), 0);
        check.due("19 none without rules", Check.pass(x, 0, 1, 2, 3), 1);
        check.due("19 kind 9", x.kinds(0, 9), 1);
        check.due("19 a 0 at the end", Check.pass(x, 0, 1, 0), 1);
        check.due("19 several", Check.pass(x, 0, 1, 0, 0, 0, 2, 0, 0), 2);
        check.due("19 at the start", Check.pass(x, 0, 0, 0, 4), 1);
        check.due("19 zeros alone", Check.pass(x, 0, 0, 0, 0), 0);
        check.due("19 in all", x.kinds(0, 9), 5);
    }

    private static void passByClauses() {
        RoadCounts x = new RoadCounts();
        x.road(0, 1, 0);
        x.road(0, 1, 0);
        Check.rules(x, "5:10-20;6:15-30;7:10-20,1-1;8:1-2,3-4,5-6,7-255;5:40-40");
        check.due("19 both ends", Check.pass(x, 0, 9, 0, 10, 0, 20, 0, 21, 0, 30, 0, 31, 0, 40), 7);
        check.due("19 first clause", x.kinds(0, 5), 3);
        check.due("19 second clause", x.kinds(0, 6), 2);
        check.due("19 others", x.kinds(0, 9), 2);
        check.due("19 two gaps", Check.pass(x, 0, 10, 1, 0, 10, 2, 0, 1, 10), 3);
        check.due("19 as many spans", x.kinds(0, 7), 1);
        check.due("19 others", x.kinds(0, 9), 4);
        check.due("19 four to seven", Check.pass(x, 0, 1, 3, 5, 255, 0, 1, 3, 5, 7, 1, 0, 1, 3, 5, 7, 1, 1, 0,
            1, 3, 5, 7, 1, 1, 1), 4);
        check.due("19 four spans", x.kinds(0, 8), 1);
        check.due("19 others", x.kinds(0, 9), 7);
        Check.pass(x, 1, 15, 0, 15);
        check.due("19 the other road", x.kinds(1, 5), 2);
        check.due("19 not this one", x.kinds(0, 5), 3);
        x.rules(0);
        check.due("19 what has passed stays", x.kinds(1, 5), 2);
        int[] many = new int[120];
        for (int i = 0; i < 120; i += 2) {
            many[i] = 15;
        }
        check.due("19 sixty", Check.pass(x, 1, many), 60);
        check.due("19 sixty of none", x.kinds(1, 9), 60);
    }

    private static void kinds() {
        RoadCounts x = new RoadCounts();
        check.due("20 no road", x.kinds(0, 0), -1);
        x.road(0, 1, 0);
        Check.rules(x, "0:1-1;1:2-2;2:3-3;3:4-4;4:5-5;5:6-6;6:7-7;7:8-8;8:9-9");
        Check.pass(x, 0, 1, 0, 2, 0, 3, 0, 4, 0, 5, 0, 6, 0, 7, 0, 8, 0, 9, 0, 10);
        for (int kind = 0; kind <= 9; kind++) {
            check.due("20 kind " + kind, x.kinds(0, kind), 1);
        }
        for (int kind : new int[] {-1, 10, MIN, MAX}) {
            check.due("20 no such kind", x.kinds(0, kind), -1);
        }
        for (int r : new int[] {-1, 1, MIN, MAX}) {
            check.due("20 no such road", x.kinds(r, 0), -1);
        }
    }

    private static void whole() {
        RoadCounts x = new RoadCounts();
        for (int s : new int[] {-1, 4, MIN, MAX}) {
            check.due("21 no such shape", x.whole(s), -1);
        }
        for (int d = 0; d < 7; d++) {
            x.weekday(1, d, 99);
        }
        for (int m = 0; m < 13; m++) {
            x.month(1, m, 99);
        }
        check.due("21 the greatest", x.whole(1), 364 * 99 * 99);
        x.weekday(1, 6, 1);
        x.holiday(0);
        check.due("21 a holiday", x.whole(1), 312 * 99 * 99 + 52 * 99 - 98 * 99);
        x.holiday(6);
        check.due("21 a holiday on weekday 6", x.whole(1), 312 * 99 * 99 + 52 * 99 - 98 * 99);
        x.month(1, 0, 2);
        check.due("21 its month", x.whole(1), (312 - 24) * 99 * 99 + 48 * 99 + 24 * 198 + 8 - 98 * 2);
        check.due("21 another shape", x.whole(0), 364);
    }

    private static void look() {
        RoadCounts x = new RoadCounts();
        check.due("22 no road", x.look(0, 0), -1);
        x.road(3, 5, 77);
        x.road(-1, 5, 78);
        x.road(5, -1, 79);
        x.shape(0, 2);
        x.count(0, 0, 4);
        x.count(0, 363, 0);
        x.holiday(0);
        int[] due = {3, 5, 77, 2, 2, 1};
        for (int what = 0; what < due.length; what++) {
            check.due("22 what " + what, x.look(0, what), due[what]);
        }
        check.due("22 from outside", x.look(1, 0), -1);
        check.due("22 to outside", x.look(2, 1), -1);
        check.due("22 a holiday's", x.look(0, 100), 4);
        check.due("22 a count of 0", x.look(0, 463), 0);
        check.due("22 no count", x.look(0, 101), -1);
        for (int what : new int[] {-1, 6, 99, 464, MIN, MAX}) {
            check.due("22 others", x.look(0, what), -1);
        }
        for (int r : new int[] {-1, 3, MIN, MAX}) {
            check.due("22 no such road", x.look(r, 2), -1);
        }
    }

    private static void tell() {
        RoadCounts x = new RoadCounts();
        x.road(-1, 0, 0);
        x.road(0, 1, 0);
        x.road(1, -1, 0);
        x.road(4, 5, 0);
        x.road(5, 4, 0);
        x.holiday(9);
        x.count(0, 9, 1);
        check.due("23 none known", x.tell(4), 0);
        x.count(0, 8, 1);
        Check.rules(x, "0:1-1;0:2-2");
        x.feed(0, 0, 0, 0, 0);
        int[] due = {5, 1, 2, 20, 1, 2};
        for (int what = 0; what < due.length; what++) {
            check.due("23 what " + what, x.tell(what), due[what]);
        }
        for (int what : new int[] {-1, 6, MIN, MAX}) {
            check.due("23 others", x.tell(what), -1);
        }
    }
}
