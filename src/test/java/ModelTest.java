import java.util.Random;

/** Runs of 512 calls drawn from a fixed seed: the program and the model must answer alike. */
public final class ModelTest {
    private static final Check check = new Check();
    private static final int[] ODD = {-1, -2, Integer.MIN_VALUE, Integer.MAX_VALUE, 31, 32, 64, 4096};

    private final Random random;
    private final RoadCounts x = new RoadCounts();
    private final Model model = new Model();
    private final int run;
    private final int roadsSpread;
    private final int mostWeight;
    private int[] waiting = new int[0];
    private int fed;
    private boolean isText;

    private ModelTest(int run) {
        this.run = run;
        random = new Random(run);
        roadsSpread = 1 + random.nextInt(8);
        mostWeight = random.nextBoolean() ? 3 : 99;
    }

    public static void main(String[] args) {
        int runs = args.length > 0 ? Integer.parseInt(args[0]) : 300;
        for (int run = 0; run < runs && !check.isWrong(); run++) {
            ModelTest test = new ModelTest(run);
            for (int call = 0; call < 512 && !check.isWrong(); call++) {
                test.call(call);
            }
        }
        check.end("ModelTest");
    }

    /** Mostly 0 to bound - 1; at times the bound itself, or something far off. */
    private int below(int bound) {
        if (random.nextInt(40) == 0) {
            return ODD[random.nextInt(ODD.length)];
        }
        return random.nextInt(random.nextInt(20) == 0 ? bound + 1 : bound);
    }

    private int roadNumber() {
        return below(Math.max(1, model.tell(0)));
    }

    private int day() {
        return random.nextInt(3) == 0 ? below(364) : below(21);
    }

    private int counted() {
        int n = random.nextInt(10);
        return n == 0 ? 100000 + random.nextInt(2) : n < 3 ? random.nextInt(100001) : random.nextInt(60);
    }

    private int junction() {
        return below(roadsSpread + 1) - (random.nextInt(30) == 0 ? 2 : 1);
    }

    private int price() {
        return random.nextInt(20) == 0 ? 9998 + random.nextInt(3) : random.nextInt(random.nextBoolean() ? 3 : 100);
    }

    private void due(int call, String what, long got, long want) {
        check.due("run " + run + " call " + call + ": " + what, got, want);
    }

    private void call(int call) {
        if (waiting.length > 0) {
            feedWaiting(call);
            return;
        }
        int what = random.nextInt(100);
        if (what < 34) {
            change(call, what);
        } else if (what < 90) {
            ask(call, what);
        } else {
            takeTape(call, what);
        }
    }

    private void change(int call, int what) {
        if (what < 5) {
            int s = below(4), d = below(7), n = below(mostWeight) + 1;
            due(call, "weekday(" + s + ", " + d + ", " + n + ")", x.weekday(s, d, n) ? 1 : 0, model.weekday(s, d, n) ? 1 : 0);
        } else if (what < 10) {
            int s = below(4), m = below(13), n = below(mostWeight) + 1;
            due(call, "month(" + s + ", " + m + ", " + n + ")", x.month(s, m, n) ? 1 : 0, model.month(s, m, n) ? 1 : 0);
        } else if (what < 12) {
            int d = day();
            due(call, "holiday(" + d + ")", x.holiday(d) ? 1 : 0, model.holiday(d) ? 1 : 0);
        } else if (what < 18) {
            int a = junction(), b = junction(), p = price();
            due(call, "road(" + a + ", " + b + ", " + p + ")", x.road(a, b, p), model.road(a, b, p));
        } else if (what < 21) {
            int r = roadNumber(), s = below(4);
            due(call, "shape(" + r + ", " + s + ")", x.shape(r, s) ? 1 : 0, model.shape(r, s) ? 1 : 0);
        } else {
            int r = random.nextBoolean() ? roadNumber() : below(2), d = day(), n = counted();
            due(call, "count(" + r + ", " + d + ", " + n + ")", x.count(r, d, n) ? 1 : 0, model.count(r, d, n) ? 1 : 0);
        }
    }

    private void ask(int call, int what) {
        int r = roadNumber();
        if (what < 40) {
            due(call, "year(" + r + ")", x.year(r), model.year(r));
        } else if (what < 45) {
            int end = below(2);
            due(call, "span(" + r + ", " + end + ")", x.span(r, end), model.span(r, end));
        } else if (what < 51) {
            due(call, "best(" + r + ")", x.best(r), model.best(r));
        } else if (what < 56) {
            due(call, "how(" + r + ")", x.how(r), model.how(r));
        } else if (what < 63) {
            due(call, "load(" + r + ")", x.load(r), model.load(r));
        } else if (what < 72) {
            int j = below(8);
            due(call, "balances(" + j + ")", x.balances(j), model.balances(j));
            due(call, "balance(" + j + ")", x.balance(j), model.balance(j));
        } else if (what < 77) {
            int set = below(1 << model.tell(0));
            due(call, "does(" + set + ")", x.does(set), model.does(set));
        } else if (what < 79) {
            due(call, "plan()", x.plan(), model.plan());
        } else if (what < 81) {
            int s = below(4);
            due(call, "whole(" + s + ")", x.whole(s), model.whole(s));
        } else if (what < 85) {
            int w = random.nextBoolean() ? below(6) : 100 + day();
            due(call, "look(" + r + ", " + w + ")", x.look(r, w), model.look(r, w));
        } else if (what < 88) {
            int w = below(6);
            due(call, "tell(" + w + ")", x.tell(w), model.tell(w));
        } else {
            int kind = below(10);
            due(call, "kinds(" + r + ", " + kind + ")", x.kinds(r, kind), model.kinds(r, kind));
        }
    }

    private void takeTape(int call, int what) {
        if (model.tell(3) == 0 && what < 98) {
            isText = random.nextInt(3) != 0;
            waiting = isText ? text() : vehicles();
            fed = waiting.length;
            return;
        }
        int n = random.nextInt(10) == 0 ? below(130) : fed;
        int r = roadNumber();
        if (isText == (random.nextInt(20) != 0)) {
            due(call, "rules(" + n + ")", x.rules(n), model.rules(n));
        } else {
            due(call, "pass(" + r + ", " + n + ")", x.pass(r, n), model.pass(r, n));
        }
    }

    private void feedWaiting(int call) {
        int[] f = new int[5];
        for (int i = 0; i < 5; i++) {
            f[i] = Check.four(waiting, 4 * i);
        }
        due(call, "feed", x.feed(f[0], f[1], f[2], f[3], f[4]), model.feed(f));
        int left = Math.max(0, waiting.length - 20);
        int[] rest = new int[left];
        System.arraycopy(waiting, waiting.length - left, rest, 0, left);
        waiting = rest;
    }

    /** Mostly right rules; one in two has a sign changed, put in or taken out. */
    private int[] text() {
        StringBuilder b = new StringBuilder();
        int clauses = random.nextInt(6) == 0 ? 8 + random.nextInt(4) : 1 + random.nextInt(4);
        for (int c = 0; c < clauses; c++) {
            b.append(c == 0 ? "" : ";").append(random.nextInt(random.nextInt(30) == 0 ? 10 : 9)).append(':');
            int spans = clauses > 7 ? 1 : 1 + random.nextInt(random.nextInt(12) == 0 ? 5 : 4);
            for (int s = 0; s < spans; s++) {
                int from = random.nextInt(clauses > 7 ? 9 : random.nextInt(30) == 0 ? 300 : 60);
                int to = from + random.nextInt(60) - (random.nextInt(20) == 0 ? 30 : 0);
                b.append(s == 0 ? "" : ",").append(from).append('-').append(Math.max(0, to));
            }
        }
        if (random.nextBoolean()) {
            int at = random.nextInt(b.length());
            String signs = "0123456789:;,-;,9 " + (char) 200;
            char sign = signs.charAt(random.nextInt(signs.length()));
            switch (random.nextInt(4)) {
                case 0 -> b.setCharAt(at, sign);
                case 1 -> b.insert(at, sign);
                case 2 -> b.deleteCharAt(at);
                default -> b.setLength(at);
            }
        }
        b.setLength(Math.min(b.length(), 130));
        return Check.bytes(b.toString());
    }

    private int[] vehicles() {
        int[] bytes = new int[1 + random.nextInt(125)];
        for (int i = 0; i < bytes.length; i++) {
            bytes[i] = random.nextInt(3) == 0 ? 0 : 1 + random.nextInt(random.nextInt(10) == 0 ? 255 : 70);
        }
        return bytes;
    }
}
