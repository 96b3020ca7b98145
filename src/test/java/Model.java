import java.math.BigInteger;
import java.util.ArrayList;
import java.util.LinkedHashMap;
import java.util.List;
import java.util.Map;
import java.util.TreeSet;

/**
 * The document's words once more, as plainly as can be and by other ways than the program's:
 * every day of the year is added up, every set of meters is tried, fractions are kept whole.
 */
final class Model {
    private record Span(int from, int to) { }

    private record Clause(int kind, List<Span> spans) { }

    private static final class Way {
        int from;
        int to;
        int price;
        int shape;
        final Map<Integer, Integer> counts = new LinkedHashMap<>();
        final int[] passed = new int[10];
    }

    private final int[][] weekdays = new int[4][7];
    private final int[][] months = new int[4][13];
    private final TreeSet<Integer> holidays = new TreeSet<>();
    private final List<Way> ways = new ArrayList<>();
    private List<Clause> clauses = new ArrayList<>();
    private final List<Integer> tape = new ArrayList<>();

    Model() {
        for (int s = 0; s < 4; s++) {
            java.util.Arrays.fill(weekdays[s], 1);
            java.util.Arrays.fill(months[s], 1);
        }
    }

    private Way way(int r) {
        return r >= 0 && r < ways.size() ? ways.get(r) : null;
    }

    private static boolean in(int n, int least, int most) {
        return n >= least && n <= most;
    }

    boolean weekday(int s, int day, int n) {
        if (in(s, 0, 3) && in(day, 0, 6) && in(n, 1, 99)) {
            weekdays[s][day] = n;
            return true;
        }
        return false;
    }

    boolean month(int s, int month, int n) {
        if (in(s, 0, 3) && in(month, 0, 12) && in(n, 1, 99)) {
            months[s][month] = n;
            return true;
        }
        return false;
    }

    boolean holiday(int day) {
        return in(day, 0, 363) && holidays.size() < 20 && holidays.add(day);
    }

    int road(int a, int b, int price) {
        if (!in(a, -1, 7) || !in(b, -1, 7) || a == b || !in(price, 0, 9999) || ways.size() == 12) {
            return -1;
        }
        Way w = new Way();
        w.from = a;
        w.to = b;
        w.price = price;
        ways.add(w);
        return ways.size() - 1;
    }

    boolean shape(int r, int s) {
        if (way(r) == null || !in(s, 0, 3)) {
            return false;
        }
        way(r).shape = s;
        return true;
    }

    boolean count(int r, int day, int n) {
        Way w = way(r);
        if (w == null || !in(day, 0, 363) || !in(n, 0, 100000)
            || !w.counts.containsKey(day) && w.counts.size() == 14) {
            return false;
        }
        w.counts.put(day, n);
        return true;
    }

    private long share(int s, int day) {
        return (long) weekdays[s][holidays.contains(day) ? 6 : day % 7] * months[s][day / 28];
    }

    long whole(int s) {
        if (!in(s, 0, 3)) {
            return -1;
        }
        long sum = 0;
        for (int day = 0; day < 364; day++) {
            sum += share(s, day);
        }
        return sum;
    }

    private Map<Integer, Integer> used(Way w) {
        Map<Integer, Integer> used = new LinkedHashMap<>(w.counts);
        used.keySet().removeAll(holidays);
        return used;
    }

    private long shares(Way w, int s) {
        return used(w).keySet().stream().mapToLong(day -> share(s, day)).sum();
    }

    private long counted(Way w) {
        return used(w).values().stream().mapToLong(n -> n).sum();
    }

    long year(int r) {
        Way w = way(r);
        if (w == null || used(w).isEmpty()) {
            return -1;
        }
        return BigInteger.valueOf(counted(w)).multiply(BigInteger.valueOf(whole(w.shape)))
            .divide(BigInteger.valueOf(shares(w, w.shape))).longValueExact();
    }

    long span(int r, int what) {
        Way w = way(r);
        if (w == null || used(w).isEmpty() || !in(what, 0, 1)) {
            return -1;
        }
        TreeSet<Long> loads = new TreeSet<>();
        used(w).forEach((day, n) -> loads.add(n * whole(w.shape) / share(w.shape, day)));
        return what == 0 ? loads.first() : loads.last();
    }

    int best(int r) {
        Way w = way(r);
        if (w == null || used(w).isEmpty()) {
            return -1;
        }
        int best = 0;
        for (int s = 1; s < 4; s++) {
            BigInteger mine = misfit(w, s).multiply(BigInteger.valueOf(shares(w, best)));
            BigInteger least = misfit(w, best).multiply(BigInteger.valueOf(shares(w, s)));
            if (mine.compareTo(least) < 0) {
                best = s;
            }
        }
        return best;
    }

    private BigInteger misfit(Way w, int s) {
        BigInteger sum = BigInteger.ZERO;
        for (Map.Entry<Integer, Integer> e : used(w).entrySet()) {
            BigInteger a = BigInteger.valueOf(e.getValue()).multiply(BigInteger.valueOf(shares(w, s)));
            BigInteger b = BigInteger.valueOf(share(s, e.getKey())).multiply(BigInteger.valueOf(counted(w)));
            sum = sum.add(a.subtract(b).abs());
        }
        return sum;
    }

    /** A load for each road that has one, else null; what is known comes first. */
    private Long[] loads() {
        Long[] loads = new Long[ways.size()];
        for (int r = 0; r < loads.length; r++) {
            loads[r] = year(r) == -1 ? null : Long.valueOf(year(r));
        }
        follow(loads);
        return loads;
    }

    private void follow(Long[] loads) {
        boolean more = true;
        while (more) {
            more = false;
            for (int j = 0; j < 8; j++) {
                int open = -1;
                int opens = 0;
                long in = 0;
                long out = 0;
                for (int r = 0; r < loads.length; r++) {
                    Way w = ways.get(r);
                    if (w.from != j && w.to != j) {
                        continue;
                    }
                    if (loads[r] == null) {
                        open = r;
                        opens++;
                    } else if (w.to == j) {
                        in += loads[r];
                    } else {
                        out += loads[r];
                    }
                }
                if (opens == 1) {
                    loads[open] = ways.get(open).to == j ? out - in : in - out;
                    more = true;
                }
            }
        }
    }

    int how(int r) {
        if (way(r) == null) {
            return -1;
        }
        return year(r) != -1 ? 0 : loads()[r] != null ? 1 : 2;
    }

    long load(int r) {
        return way(r) == null || loads()[r] == null ? 0 : loads()[r];
    }

    private Long balanceOrNull(int j) {
        long sum = 0;
        Long[] loads = loads();
        for (int r = 0; r < loads.length; r++) {
            Way w = ways.get(r);
            if (w.from == j || w.to == j) {
                if (loads[r] == null) {
                    return null;
                }
                sum += w.to == j ? loads[r] : -loads[r];
            }
        }
        return sum;
    }

    int balances(int j) {
        return !in(j, 0, 7) ? -1 : balanceOrNull(j) == null ? 0 : 1;
    }

    long balance(int j) {
        return !in(j, 0, 7) || balanceOrNull(j) == null ? 0 : balanceOrNull(j);
    }

    int does(int set) {
        if (set < 0 || set >= 1 << ways.size()) {
            return -1;
        }
        Long[] loads = new Long[ways.size()];
        for (int r = 0; r < loads.length; r++) {
            loads[r] = (set >> r & 1) == 1 ? Long.valueOf(0) : null;
        }
        follow(loads);
        for (Long load : loads) {
            if (load == null) {
                return 0;
            }
        }
        return 1;
    }

    int plan() {
        int best = -1;
        int bestPrice = 0;
        for (int set = 0; set < 1 << ways.size(); set++) {
            int price = 0;
            for (int r = 0; r < ways.size(); r++) {
                price += (set >> r & 1) * ways.get(r).price;
            }
            boolean better = best == -1 || price < bestPrice
                || price == bestPrice && Integer.bitCount(set) < Integer.bitCount(best);
            if (better && does(set) == 1) {
                best = set;
                bestPrice = price;
            }
        }
        return best;
    }

    int feed(int... fives) {
        if (tape.size() > 100) {
            return -1;
        }
        for (int five : fives) {
            for (byte b : java.nio.ByteBuffer.allocate(4).putInt(five).array()) {
                tape.add(b & 255);
            }
        }
        return tape.size();
    }

    int rules(int n) {
        if (n < 0 || n > tape.size()) {
            return -1;
        }
        List<Clause> read = new ArrayList<>();
        int fault = n == 0 ? 0 : machine(new ArrayList<>(tape.subList(0, n)), read);
        tape.clear();
        if (fault == 0) {
            clauses = read;
        }
        return fault;
    }

    /** Sign by sign: in state 0 a kind is due, 1 a colon, 2 a first number, 3 a second number. */
    private static int machine(List<Integer> text, List<Clause> read) {
        int state = 0;
        int digits = 0;
        int value = 0;
        int first = 0;
        for (int p = 0; p <= text.size(); p++) {
            int c = p < text.size() ? text.get(p) : -1;
            boolean digit = c >= '0' && c <= '9';
            if (state == 0) {
                if (!digit) {
                    return 100 + p;
                }
                if (read.size() == 9) {
                    return 400 + p;
                }
                if (c == '9') {
                    return 200 + p;
                }
                read.add(new Clause(c - '0', new ArrayList<>()));
                state = 1;
            } else if (state == 1) {
                if (c != ':') {
                    return 100 + p;
                }
                state = 2;
                digits = 0;
            } else if (digit && digits < 3) {
                value = (digits == 0 ? 0 : value * 10) + c - '0';
                digits++;
            } else if (digit || digits == 0) {
                return 100 + p;
            } else if (value > 255 || state == 3 && value < first) {
                return 300 + p - digits;
            } else if (state == 2) {
                if (c != '-') {
                    return 100 + p;
                }
                first = value;
                state = 3;
                digits = 0;
            } else {
                List<Span> spans = read.get(read.size() - 1).spans();
                spans.add(new Span(first, value));
                if (c == -1) {
                    return 0;
                }
                if (c != ';' && (c != ',' || spans.size() == 4)) {
                    return 100 + p;
                }
                state = c == ';' ? 0 : 2;
                digits = 0;
            }
        }
        throw new IllegalStateException("the end was not answered");
    }

    int pass(int r, int n) {
        if (way(r) == null || n < 0 || n > tape.size()) {
            return -1;
        }
        List<List<Integer>> vehicles = new ArrayList<>();
        List<Integer> gaps = new ArrayList<>();
        for (int i = 0; i <= n; i++) {
            int b = i < n ? tape.get(i) : 0;
            if (b != 0) {
                gaps.add(b);
            } else if (!gaps.isEmpty()) {
                vehicles.add(gaps);
                gaps = new ArrayList<>();
            }
        }
        tape.clear();
        for (List<Integer> v : vehicles) {
            way(r).passed[kindOf(v)]++;
        }
        return vehicles.size();
    }

    private int kindOf(List<Integer> gaps) {
        for (Clause c : clauses) {
            boolean fits = c.spans().size() == gaps.size();
            for (int i = 0; fits && i < gaps.size(); i++) {
                fits = in(gaps.get(i), c.spans().get(i).from(), c.spans().get(i).to());
            }
            if (fits) {
                return c.kind();
            }
        }
        return 9;
    }

    int kinds(int r, int kind) {
        return way(r) == null || !in(kind, 0, 9) ? -1 : way(r).passed[kind];
    }

    int look(int r, int what) {
        Way w = way(r);
        if (w == null) {
            return -1;
        }
        if (in(what, 0, 5)) {
            return new int[] {w.from, w.to, w.price, w.shape, w.counts.size(), used(w).size()}[what];
        }
        return in(what, 100, 463) ? w.counts.getOrDefault(what - 100, -1) : -1;
    }

    int tell(int what) {
        return switch (what) {
            case 0 -> ways.size();
            case 1 -> holidays.size();
            case 2 -> clauses.size();
            case 3 -> tape.size();
            case 4 -> having(0);
            case 5 -> having(1);
            default -> -1;
        };
    }

    private int having(int how) {
        int n = 0;
        for (int r = 0; r < ways.size(); r++) {
            n += how(r) == how ? 1 : 0;
        }
        return n;
    }
}
