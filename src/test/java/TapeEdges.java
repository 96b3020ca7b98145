/** Boundary cases of the tape and of vehicles. */
final class TapeEdges {
    private static final String EVERY_KIND = "0:1-1;1:2-2;2:3-3;3:4-4;4:5-5;5:6-6;6:7-7;7:8-8;8:9-9";

    private final Sentences s;

    TapeEdges(Sentences s) {
        this.s = s;
    }

    void all() {
        gapsOfOneToSix();
        everyGap();
        firstClause();
        asManySpans();
        bothEnds();
        zeros();
        moreThanSix();
        feed();
        fedBytes();
        rulesTakeTheTape();
        passTakesTheTape();
        passedBytes();
        kinds();
        fiveHundredAndTwelveCalls();
    }

    private static RoadCounts withRules(String text) {
        RoadCounts x = new RoadCounts();
        x.road(0, 1, 0);
        x.road(1, 0, 0);
        Check.rules(x, text);
        return x;
    }

    /** The kind of one vehicle by rules; what there was more than the one makes it -2. */
    private static int kindOf(String text, int... gaps) {
        RoadCounts x = withRules(text);
        int vehicles = Check.pass(x, 0, gaps);
        int kind = -2;
        for (int k = 0; k <= 9; k++) {
            if (vehicles == 1 && x.kinds(0, k) == 1) {
                kind = k;
            }
        }
        return kind;
    }

    private void gapsOfOneToSix() {
        s.terms("A VEHICLE is a row of GAPS in decimetres (bytes 1 to 255, one to six)");
        String text = "1:0-255;2:0-255,0-255;3:0-255,0-255,0-255;4:0-255,0-255,0-255,0-255";
        int[] due = {-2, 1, 2, 3, 4, 9, 9};
        for (int n = 0; n <= 6; n++) {
            int[] gaps = new int[n];
            java.util.Arrays.fill(gaps, 7);
            s.due("gaps " + n, kindOf(text, gaps), due[n]);
        }
    }

    private void everyGap() {
        for (int gap = 1; gap <= 255; gap++) {
            String one = gap + "-" + gap;
            s.due("gap " + gap, kindOf("5:0-255", gap), 5);
            s.due("gap " + gap + " alone", kindOf("0:0-" + (gap - 1) + ";5:" + one, gap), 5);
        }
    }

    private void firstClause() {
        s.terms("it is of the KIND of the first CLAUSE with as many SPANS as it has GAPS, in which each GAP lies within its"
            + " SPAN");
        s.due("two fit", kindOf("4:1-9;3:1-9", 5), 4);
        s.due("the second fits", kindOf("4:1-4;3:1-9", 5), 3);
        s.due("the ninth fits", kindOf("0:1-1;0:1-1;0:1-1;0:1-1;0:1-1;0:1-1;0:1-1;0:1-1;8:5-5", 5), 8);
        s.due("the first of nine", kindOf("8:5-5;0:5-5;0:5-5;0:5-5;0:5-5;0:5-5;0:5-5;0:5-5;0:5-5", 5), 8);
        s.due("the same kind twice", kindOf("2:1-1;2:5-5", 5), 2);
        s.terms("of none: KIND 9.");
        s.due("no rules", kindOf("", 5), 9);
        s.due("none fits", kindOf("4:1-4;3:6-9", 5), 9);
        s.due("spans of 0 fit nothing", kindOf("4:0-0", 1), 9);
    }

    private void asManySpans() {
        s.terms("with as many SPANS as it has GAPS");
        s.due("a span more", kindOf("1:5-5,5-5", 5), 9);
        s.due("a gap more", kindOf("1:5-5", 5, 5), 9);
        s.due("the number tells", kindOf("1:5-5;2:5-5,5-5;3:5-5,5-5,5-5", 5, 5), 2);
        s.due("four", kindOf("1:5-5,5-5,5-5;2:5-5,5-5,5-5,5-5", 5, 5, 5, 5), 2);
        s.due("five", kindOf("1:5-5,5-5,5-5,5-5", 5, 5, 5, 5, 5), 9);
    }

    private void bothEnds() {
        s.terms("(both ends, too)");
        int[] gaps = {9, 10, 11, 19, 20, 21};
        int[] due = {9, 6, 6, 6, 6, 9};
        for (int place = 0; place < 4; place++) {
            for (int i = 0; i < gaps.length; i++) {
                int[] vehicle = {1, 2, 3, 4};
                vehicle[place] = gaps[i];
                StringBuilder text = new StringBuilder("6:");
                for (int p = 0; p < 4; p++) {
                    text.append(p == 0 ? "" : ",").append(p == place ? "10-20" : p + 1 + "-" + (p + 1));
                }
                s.due("gap " + gaps[i] + " at " + place, kindOf(text.toString(), vehicle), due[i]);
            }
        }
        s.due("from the least", kindOf("6:1-1", 1), 6);
        s.due("to the greatest", kindOf("6:255-255", 255), 6);
        s.due("below the greatest", kindOf("6:255-255", 254), 9);
    }

    private void zeros() {
        s.terms("VEHICLES with a 0 between two (a 0 at the end, or several, are nothing more)");
        int[][] passing = {{}, {0}, {0, 0, 0}, {1}, {1, 0}, {1, 0, 0, 0}, {1, 0, 1}, {1, 0, 0, 1}, {0, 1}, {0, 0, 1, 0, 0},
            {1, 0, 0, 0, 1, 0, 0, 1, 0}};
        int[] due = {0, 0, 0, 1, 1, 1, 2, 2, 1, 1, 3};
        for (int i = 0; i < passing.length; i++) {
            RoadCounts x = withRules("5:1-1");
            s.due("vehicles " + i, Check.pass(x, 0, passing[i]), due[i]);
            s.due("all of one gap " + i, x.kinds(0, 5), due[i]);
            s.due("none of others " + i, x.kinds(0, 9), 0);
        }
        RoadCounts y = withRules("5:1-1,1-1");
        s.due("two gaps and one", Check.pass(y, 0, 1, 1, 0, 1), 2);
        s.due("not joined", y.kinds(0, 5) * 10 + y.kinds(0, 9), 11);
    }

    private void moreThanSix() {
        s.terms("One of more than six GAPS is of KIND 9, too.");
        String text = "1:1-1;2:1-1,1-1;3:1-1,1-1,1-1;4:1-1,1-1,1-1,1-1";
        for (int n : new int[] {6, 7, 8, 10, 11, 12, 14, 60, 119, 120}) {
            int[] gaps = new int[n];
            java.util.Arrays.fill(gaps, 1);
            s.due("one of " + n, kindOf(text, gaps), 9);
        }
        RoadCounts x = withRules(text);
        s.due("seven, then one", Check.pass(x, 0, 1, 1, 1, 1, 1, 1, 1, 0, 1), 2);
        s.due("the one is told", x.kinds(0, 1), 1);
    }

    private void feed() {
        s.promise(17, "how many it has; NONE if that would be more than 120.");
        RoadCounts x = withRules("3:1-1");
        for (int i = 1; i <= 6; i++) {
            s.due("feed", x.feed(0x01000000, 0, 0, 0, 0), 20 * i);
            s.due("told", x.tell(3), 20 * i);
        }
        for (int again = 0; again < 2; again++) {
            s.due("more than 120", x.feed(0x02020202, 0x02020202, 0x02020202, 0x02020202, 0x02020202), -1);
            s.due("still 120", x.tell(3), 120);
        }
        s.due("what was there is there", x.pass(0, 120), 6);
        s.due("unchanged", x.kinds(0, 3), 6);
        s.due("room again", x.feed(0, 0, 0, 0, 0), 20);
    }

    private void fedBytes() {
        s.promise(17, "Twenty bytes come behind the tape, the highest of each int first");
        for (int place = 0; place < 20; place++) {
            RoadCounts x = withRules("3:200-200");
            int[] fed = new int[5];
            fed[place / 4] = 200 << 24 - place % 4 * 8;
            x.feed(0, 0, 0, 0, 0);
            x.feed(fed[0], fed[1], fed[2], fed[3], fed[4]);
            s.due("not before " + place, x.pass(0, 20 + place), 0);
            x.feed(0, 0, 0, 0, 0);
            x.feed(fed[0], fed[1], fed[2], fed[3], fed[4]);
            s.due("at " + place, x.pass(0, 20 + place + 1), 1);
            s.due("as it was", x.kinds(0, 3), 1);
        }
        RoadCounts y = withRules("4:128-128,255-255,127-127,1-1");
        y.feed(0x80FF7F01, 0, 0, 0, 0);
        s.due("four of one int", y.pass(0, 20), 1);
        s.due("in order, without sign", y.kinds(0, 4), 1);
    }

    private void rulesTakeTheTape() {
        s.promise(18, "NONE: it has not so many (the tape stays).");
        RoadCounts x = withRules("1:1-1");
        for (int n : new int[] {1, -1, 120, Sentences.MIN, Sentences.MAX}) {
            s.due("an empty tape, " + n, x.rules(n), -1);
        }
        Check.feed(x, Check.bytes("0:1-1;0:2-2;0:3-3;4:4"));
        for (int n : new int[] {41, 60, 120, 121, -1, Sentences.MIN, Sentences.MAX}) {
            s.due("of 40 bytes " + n, x.rules(n), -1);
            s.due("the tape stays", x.tell(3), 40);
            s.due("the rules stay", x.tell(2), 1);
        }
        s.due("what was there is there", x.rules(17), 0);
        s.due("three clauses", x.tell(2), 3);
        s.promise(18, "The first n bytes of the tape (empty then) are RULES from now on (none: 0 bytes): 0");
        s.due("empty then", x.tell(3), 0);
        int[] due = {317, 0, 317, 120};
        for (int n = 18; n <= 21; n++) {
            Check.feed(x, Check.bytes("0:1-1;0:2-2;1:33-4455"));
            s.due("no more than the first " + n + " are read", x.rules(n), due[n - 18]);
        }
        Check.feed(x, Check.bytes("0:1-1;0:2-2;9"));
        s.due("the first two", x.rules(11), 0);
        s.due("two clauses", x.tell(2), 2);
        Check.feed(x, Check.bytes("0:1-1"));
        s.due("0 bytes of many", x.rules(0), 0);
        s.due("none", x.tell(2), 0);
        s.due("empty then", x.tell(3), 0);
        s.due("0 bytes of none", x.rules(0), 0);
        Check.feed(x, Check.bytes("0:001-002;1:003-0044"));
        s.due("all of the tape", x.rules(20), 119);
        Check.feed(x, Check.bytes("0:001-002;1:0003-044"));
        s.due("empty after a fault", x.rules(20) * 1000 + x.tell(3), 115000);
        Check.feed(x, Check.bytes("0:001-002;1:003-1,44"));
        s.due("empty after a fault", x.rules(20) * 1000 + x.tell(3), 316000);
        Check.feed(x, Check.bytes("0:01-02,3-4;1:03-044"));
        s.due("twenty of twenty", x.rules(20), 0);
    }

    private void passTakesTheTape() {
        s.promise(19, "NONE: no such one, it has not so many (the tape stays).");
        RoadCounts x = withRules("1:1-1");
        s.due("an empty tape", x.pass(0, 1), -1);
        x.feed(0x01000100, 0x01000100, 0, 0, 0);
        for (int n : new int[] {21, 120, 121, -1, Sentences.MIN, Sentences.MAX}) {
            s.due("of 20 bytes " + n, x.pass(0, n), -1);
            s.due("the tape stays", x.tell(3), 20);
        }
        for (int r : new int[] {-1, 2, 12, Sentences.MIN, Sentences.MAX}) {
            s.due("road " + r, x.pass(r, 8), -1);
            s.due("none of road " + r, x.pass(r, 0), -1);
            s.due("the tape stays", x.tell(3), 20);
        }
        s.due("none has passed", x.kinds(0, 1) + x.kinds(0, 9), 0);
        s.due("what was there is there", x.pass(1, 20), 4);
        s.due("on the last road", x.kinds(1, 1), 4);
        s.due("empty then", x.tell(3), 0);
    }

    private void passedBytes() {
        s.promise(19, "The first n bytes of the tape (empty then) PASS ROAD r: how many VEHICLES");
        RoadCounts x = withRules("1:1-1;2:1-1,2-2");
        x.feed(0x01020003, 0, 0, 0, 0);
        s.due("cut within a vehicle", x.pass(0, 1), 1);
        s.due("the rest is gone", x.tell(3), 0);
        s.due("of one gap", x.kinds(0, 1), 1);
        x.feed(0x01020003, 0, 0, 0, 0);
        s.due("cut behind it", x.pass(0, 2), 1);
        s.due("of two gaps", x.kinds(0, 2), 1);
        x.feed(0x01020003, 0, 0, 0, 0);
        s.due("none of them", x.pass(0, 0), 0);
        s.due("empty then", x.tell(3), 0);
        s.due("none of none", x.pass(0, 0), 0);
        int[] most = new int[120];
        for (int i = 0; i < 120; i += 2) {
            most[i] = 1;
        }
        s.due("sixty", Check.pass(x, 0, most), 60);
        s.due("sixty and one", x.kinds(0, 1), 61);
    }

    private void kinds() {
        s.promise(20, "How many of a KIND (0 to 9) PASSED ROAD r; NONE: no such ones.");
        RoadCounts x = withRules(EVERY_KIND);
        Check.pass(x, 1, 1, 0, 2, 0, 3, 0, 4, 0, 5, 0, 6, 0, 7, 0, 8, 0, 9, 0, 10);
        for (int kind = 0; kind <= 9; kind++) {
            s.due("kind " + kind, x.kinds(1, kind), 1);
            s.due("none on the other road", x.kinds(0, kind), 0);
        }
        for (int kind : new int[] {-1, 10, Sentences.MIN, Sentences.MAX}) {
            s.due("kind " + kind, x.kinds(1, kind), -1);
        }
        for (int r : new int[] {-1, 2, 12, Sentences.MIN, Sentences.MAX}) {
            s.due("road " + r, x.kinds(r, 0), -1);
            s.due("road " + r, x.kinds(r, 9), -1);
        }
        x.rules(0);
        s.due("new rules do not ask again", x.kinds(1, 8), 1);
        Check.pass(x, 1, 9);
        s.due("but from now on", x.kinds(1, 8) * 10 + x.kinds(1, 9), 12);
    }

    private void fiveHundredAndTwelveCalls() {
        s.terms("An object is used for at most 512 calls after it has been made");
        RoadCounts x = new RoadCounts();
        x.road(0, 1, 0);
        for (int i = 0; i < 255; i++) {
            x.feed(0x01000100, 0x01000100, 0x01000100, 0x01000100, 0x01000100);
            x.pass(0, 20);
        }
        s.due("the last", x.kinds(0, 9), 2550);
    }
}
