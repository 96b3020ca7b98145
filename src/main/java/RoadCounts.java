/** Roads counted on a few days and made to a year; ../shared/DOC.md says what each call answers. */
public final class RoadCounts {
    public static final int NONE = -1;

    private static final int DAYS = 364;
    private static final int WEEKDAYS = 7;
    private static final int HOLIDAYS_WEEKDAY = 6;
    private static final int MONTHS = 13;
    private static final int DAYS_OF_MONTH = 28;
    private static final int MOST_HOLIDAYS = 20;
    private static final int SHAPES = 4;
    private static final int MOST_WEIGHT = 99;
    private static final int MOST_ROADS = 12;
    private static final int JUNCTIONS = 8;
    private static final int MOST_PRICE = 9999;
    private static final int MOST_COUNTS = 14;
    private static final int MOST_COUNTED = 100000;
    private static final int MOST_BYTES = 120;
    private static final int FED_BYTES = 20;
    private static final int KIND_OF_OTHERS = 9;
    private static final int MOST_CLAUSES = 9;
    private static final int MOST_SPANS = 4;
    private static final int MOST_DIGITS = 3;
    private static final int MOST_GAP = 255;
    private static final int LOOK_AT_DAYS = 100;

    private static final int CANNOT_STAND = 100;
    private static final int KIND_NINE = 200;
    private static final int WRONG_NUMBER = 300;
    private static final int TENTH_CLAUSE = 400;

    private final Almanac almanac;
    private final Network network;
    private final Tape tape;
    private final RulesReader reader;
    private Rules inForce;
    private Rules spare;

    public RoadCounts() {
        almanac = new Almanac();
        network = new Network();
        tape = new Tape();
        reader = new RulesReader(tape);
        inForce = new Rules();
        spare = new Rules();
    }

    public boolean weekday(int shape, int day, int n) {
        if (!isBelow(shape, SHAPES) || !isBelow(day, WEEKDAYS) || !isWeight(n)) {
            return false;
        }
        almanac.weighWeekday(shape, day, n);
        return true;
    }

    public boolean month(int shape, int month, int n) {
        if (!isBelow(shape, SHAPES) || !isBelow(month, MONTHS) || !isWeight(n)) {
            return false;
        }
        almanac.weighMonth(shape, month, n);
        return true;
    }

    public boolean holiday(int day) {
        return isBelow(day, DAYS) && almanac.addHoliday(day);
    }

    public int road(int a, int b, int price) {
        if (!isEnd(a) || !isEnd(b) || a == b || price < 0 || price > MOST_PRICE) {
            return NONE;
        }
        return network.add(a, b, price);
    }

    public boolean shape(int r, int shape) {
        Road road = network.at(r);
        if (road == null || !isBelow(shape, SHAPES)) {
            return false;
        }
        road.form = shape;
        return true;
    }

    public boolean count(int r, int day, int n) {
        Road road = network.at(r);
        if (road == null || !isBelow(day, DAYS) || n < 0 || n > MOST_COUNTED) {
            return false;
        }
        return road.counts.put(day, n);
    }

    public long year(int r) {
        Road road = network.at(r);
        return road == null ? NONE : road.counts.loadOfAll(almanac, road.form);
    }

    public long span(int r, int what) {
        Road road = network.at(r);
        if (road == null || !isBelow(what, 2)) {
            return NONE;
        }
        return road.counts.loadAtEnd(almanac, road.form, what == 1);
    }

    public int best(int r) {
        Road road = network.at(r);
        return road == null ? NONE : road.counts.bestShape(almanac);
    }

    public int how(int r) {
        if (network.at(r) == null) {
            return NONE;
        }
        network.settle(almanac);
        if (network.isKnown(r)) {
            return 0;
        }
        return network.isTold(r) ? 1 : 2;
    }

    public long load(int r) {
        if (network.at(r) == null) {
            return 0;
        }
        network.settle(almanac);
        return network.isTold(r) ? network.loadOf(r) : 0;
    }

    public int balances(int j) {
        if (!isBelow(j, JUNCTIONS)) {
            return NONE;
        }
        network.settle(almanac);
        return network.isAllToldAt(j) ? 1 : 0;
    }

    public long balance(int j) {
        if (!isBelow(j, JUNCTIONS)) {
            return 0;
        }
        network.settle(almanac);
        return network.isAllToldAt(j) ? network.surplus(j) : 0;
    }

    public int does(int set) {
        if (!network.hasAll(set)) {
            return NONE;
        }
        return network.isEnough(set) ? 1 : 0;
    }

    public int plan() {
        return network.cheapestEnough();
    }

    public int feed(int a, int b, int c, int d, int e) {
        if (tape.length + FED_BYTES > MOST_BYTES) {
            return NONE;
        }
        tape.append(a);
        tape.append(b);
        tape.append(c);
        tape.append(d);
        tape.append(e);
        return tape.length;
    }

    public int rules(int n) {
        if (n < 0 || n > tape.length) {
            return NONE;
        }
        int fault = reader.read(n, spare);
        tape.length = 0;
        if (fault == 0) {
            Rules old = inForce;
            inForce = spare;
            spare = old;
        }
        return fault;
    }

    public int pass(int r, int n) {
        Road road = network.at(r);
        if (road == null || n < 0 || n > tape.length) {
            return NONE;
        }
        int vehicles = 0;
        int start = 0;
        for (int end = 0; end <= n; end++) {
            if (end < n && tape.at(end) != 0) {
                continue;
            }
            if (end > start) {
                road.passed[inForce.kindOf(tape, start, end - start)]++;
                vehicles++;
            }
            start = end + 1;
        }
        tape.length = 0;
        return vehicles;
    }

    public int kinds(int r, int kind) {
        Road road = network.at(r);
        if (road == null || !isBelow(kind, KIND_OF_OTHERS + 1)) {
            return NONE;
        }
        return road.passed[kind];
    }

    public long whole(int shape) {
        return isBelow(shape, SHAPES) ? almanac.wholeOf(shape) : NONE;
    }

    public int look(int r, int what) {
        Road road = network.at(r);
        if (road == null) {
            return NONE;
        }
        switch (what) {
            case 0:
                return road.from;
            case 1:
                return road.to;
            case 2:
                return road.price;
            case 3:
                return road.form;
            case 4:
                return road.counts.size;
            case 5:
                return road.counts.used(almanac);
            default:
                return what < LOOK_AT_DAYS ? NONE : road.counts.on(what - LOOK_AT_DAYS);
        }
    }

    public int tell(int what) {
        switch (what) {
            case 0:
                return network.size;
            case 1:
                return almanac.holidays;
            case 2:
                return inForce.size;
            case 3:
                return tape.length;
            case 4:
                network.settle(almanac);
                return Integer.bitCount(network.known);
            case 5:
                network.settle(almanac);
                return Integer.bitCount(network.told) - Integer.bitCount(network.known);
            default:
                return NONE;
        }
    }

    private static boolean isBelow(int n, int bound) {
        return n >= 0 && n < bound;
    }

    private static boolean isWeight(int n) {
        return n >= 1 && n <= MOST_WEIGHT;
    }

    private static boolean isEnd(int end) {
        return end == NONE || isBelow(end, JUNCTIONS);
    }

    /** The year: its holidays, and what each shape gives to each day. */
    private static final class Almanac {
        private final int[][] weekdayWeights = new int[SHAPES][WEEKDAYS];
        private final int[][] monthWeights = new int[SHAPES][MONTHS];
        private final boolean[] isHoliday = new boolean[DAYS];
        private final int[] holidayDays = new int[MOST_HOLIDAYS];
        private int holidays;

        Almanac() {
            for (int s = 0; s < SHAPES; s++) {
                for (int d = 0; d < WEEKDAYS; d++) {
                    weekdayWeights[s][d] = 1;
                }
                for (int m = 0; m < MONTHS; m++) {
                    monthWeights[s][m] = 1;
                }
            }
        }

        void weighWeekday(int s, int weekdayNumber, int weight) {
            weekdayWeights[s][weekdayNumber] = weight;
        }

        void weighMonth(int s, int monthNumber, int weight) {
            monthWeights[s][monthNumber] = weight;
        }

        boolean addHoliday(int day) {
            if (isHoliday[day] || holidays >= MOST_HOLIDAYS) {
                return false;
            }
            isHoliday[day] = true;
            holidayDays[holidays] = day;
            holidays++;
            return true;
        }

        long shareOf(int s, int day) {
            int weekdayNumber = isHoliday[day] ? HOLIDAYS_WEEKDAY : day % WEEKDAYS;
            return weekdayWeights[s][weekdayNumber] * monthWeights[s][day / DAYS_OF_MONTH];
        }

        /**
         * A month has each weekday equally often, so a year without holidays is a product;
         * a holiday then only trades its own weekday's weight for that of weekday 6.
         */
        long wholeOf(int s) {
            long week = 0;
            for (int d = 0; d < WEEKDAYS; d++) {
                week += weekdayWeights[s][d];
            }
            long months = 0;
            for (int m = 0; m < MONTHS; m++) {
                months += monthWeights[s][m];
            }
            long sum = DAYS_OF_MONTH / WEEKDAYS * week * months;
            for (int i = 0; i < holidays; i++) {
                int day = holidayDays[i];
                long ordinary = weekdayWeights[s][day % WEEKDAYS] * monthWeights[s][day / DAYS_OF_MONTH];
                sum += shareOf(s, day) - ordinary;
            }
            return sum;
        }
    }

    /** The counts of one road; those on holidays are kept, but never used. */
    private static final class Counts {
        private final int[] days = new int[MOST_COUNTS];
        private final int[] counted = new int[MOST_COUNTS];
        private int size;

        boolean put(int day, int n) {
            int place = placeOf(day);
            if (place == NONE) {
                if (size >= MOST_COUNTS) {
                    return false;
                }
                place = size;
                size++;
            }
            days[place] = day;
            counted[place] = n;
            return true;
        }

        int on(int day) {
            int place = placeOf(day);
            return place == NONE ? NONE : counted[place];
        }

        int used(Almanac almanac) {
            int n = 0;
            for (int i = 0; i < size; i++) {
                if (isUsed(i, almanac)) {
                    n++;
                }
            }
            return n;
        }

        long loadOfAll(Almanac almanac, int s) {
            long shares = usedShares(almanac, s);
            return shares > 0 ? usedTotal(almanac) * almanac.wholeOf(s) / shares : NONE;
        }

        /** The least or the greatest load by one used day alone. */
        long loadAtEnd(Almanac almanac, int s, boolean greatest) {
            long whole = almanac.wholeOf(s);
            long end = NONE;
            for (int i = 0; i < size; i++) {
                long share = almanac.shareOf(s, days[i]);
                if (isUsed(i, almanac) && share > 0) {
                    long one = counted[i] * whole / share;
                    if (end == NONE || (greatest ? one > end : one < end)) {
                        end = one;
                    }
                }
            }
            return end;
        }

        /** Misfits are fractions: they are compared crosswise, for a quotient would round them. */
        int bestShape(Almanac almanac) {
            if (used(almanac) == 0) {
                return NONE;
            }
            int bestSoFar = 0;
            long leastShares = usedShares(almanac, 0);
            long least = misfitTimesShares(almanac, 0, leastShares);
            for (int s = 1; s < SHAPES; s++) {
                long shares = usedShares(almanac, s);
                long misfit = misfitTimesShares(almanac, s, shares);
                if (misfit * leastShares < least * shares) {
                    bestSoFar = s;
                    leastShares = shares;
                    least = misfit;
                }
            }
            return bestSoFar;
        }

        private long misfitTimesShares(Almanac almanac, int s, long shares) {
            long total = usedTotal(almanac);
            long sum = 0;
            for (int i = 0; i < size; i++) {
                if (isUsed(i, almanac)) {
                    sum += Math.abs(counted[i] * shares - almanac.shareOf(s, days[i]) * total);
                }
            }
            return sum;
        }

        private long usedTotal(Almanac almanac) {
            long sum = 0;
            for (int i = 0; i < size; i++) {
                if (isUsed(i, almanac)) {
                    sum += counted[i];
                }
            }
            return sum;
        }

        private long usedShares(Almanac almanac, int s) {
            long sum = 0;
            for (int i = 0; i < size; i++) {
                if (isUsed(i, almanac)) {
                    sum += almanac.shareOf(s, days[i]);
                }
            }
            return sum;
        }

        private boolean isUsed(int place, Almanac almanac) {
            return !almanac.isHoliday[days[place]];
        }

        private int placeOf(int day) {
            for (int i = 0; i < size; i++) {
                if (days[i] == day) {
                    return i;
                }
            }
            return NONE;
        }
    }

    /** One road, with its counts and how many of each kind passed it. */
    private static final class Road {
        private final int from;
        private final int to;
        private final int price;
        private final Counts counts = new Counts();
        private final int[] passed = new int[KIND_OF_OTHERS + 1];
        private int form;

        Road(int from, int to, int price) {
            this.from = from;
            this.to = to;
            this.price = price;
        }
    }

    /** All roads, and what follows at their junctions. Sets of roads are bits. */
    private static final class Network {
        private final Road[] roads = new Road[MOST_ROADS];
        private final int[] roadsAt = new int[JUNCTIONS];
        private final long[] loads = new long[MOST_ROADS];
        private final int[] followers = new int[MOST_ROADS];
        private final int[] followedAt = new int[MOST_ROADS];
        private int steps;
        private int size;
        private int known;
        private int told;

        int add(int from, int to, int price) {
            if (size >= MOST_ROADS) {
                return NONE;
            }
            roads[size] = new Road(from, to, price);
            if (from != NONE) {
                roadsAt[from] |= 1 << size;
            }
            if (to != NONE) {
                roadsAt[to] |= 1 << size;
            }
            size++;
            return size - 1;
        }

        Road at(int r) {
            return isBelow(r, size) ? roads[r] : null;
        }

        boolean hasAll(int set) {
            return isBelow(set, 1 << size);
        }

        boolean isKnown(int r) {
            return (known >> r & 1) == 1;
        }

        boolean isTold(int r) {
            return (told >> r & 1) == 1;
        }

        boolean isAllToldAt(int j) {
            return (roadsAt[j] & ~told) == 0;
        }

        long loadOf(int r) {
            return loads[r];
        }

        /** What comes in at a junction, less what goes out, by the roads that are told. */
        long surplus(int j) {
            long sum = 0;
            for (int r = 0; r < size; r++) {
                if (isTold(r) && (roadsAt[j] >> r & 1) == 1) {
                    sum += roads[r].to == j ? loads[r] : -loads[r];
                }
            }
            return sum;
        }

        /** Works out anew which roads are known, which follow, and all their loads. */
        void settle(Almanac almanac) {
            known = 0;
            for (int r = 0; r < size; r++) {
                Road road = roads[r];
                long byCounts = road.counts.loadOfAll(almanac, road.form);
                if (byCounts != NONE) {
                    known |= 1 << r;
                    loads[r] = byCounts;
                }
            }
            told = known;
            follow(known);
            for (int i = 0; i < steps; i++) {
                int r = followers[i];
                int j = followedAt[i];
                long rest = surplus(j);
                loads[r] = roads[r].to == j ? -rest : rest;
                told |= 1 << r;
            }
        }

        boolean isEnough(int set) {
            return follow(set) == (1 << size) - 1;
        }

        /**
         * Roads that can all follow are those without a ring (with outside as one more place),
         * so taking meters off one by one, the dearest first, ends at the cheapest set: of like
         * prices the highest number goes first, which leaves the least bits.
         */
        int cheapestEnough() {
            int meters = (1 << size) - 1;
            int asked = 0;
            for (int i = 0; i < size; i++) {
                int r = dearestOutside(asked);
                asked |= 1 << r;
                if (isEnough(meters & ~(1 << r))) {
                    meters &= ~(1 << r);
                }
            }
            return meters;
        }

        /** The dearest road that is not in the set, of like ones the highest; 0 if all are in it. */
        private int dearestOutside(int set) {
            int dearest = 0;
            int price = NONE;
            for (int r = 0; r < size; r++) {
                if ((set >> r & 1) == 0 && roads[r].price >= price) {
                    dearest = r;
                    price = roads[r].price;
                }
            }
            return dearest;
        }

        /**
         * All roads that are told once everything has followed from a set; keeps which road
         * followed at which junction, in order, for where counts disagree the order tells.
         */
        private int follow(int set) {
            int reached = set;
            steps = 0;
            boolean more = true;
            // every round but the last tells a road, so there are never more rounds than this
            for (int round = 0; more && round <= size; round++) {
                more = false;
                for (int j = 0; j < JUNCTIONS; j++) {
                    int open = roadsAt[j] & ~reached;
                    if (Integer.bitCount(open) == 1 && steps < MOST_ROADS) {
                        followers[steps] = Integer.numberOfTrailingZeros(open);
                        followedAt[steps] = j;
                        steps++;
                        reached |= open;
                        more = true;
                    }
                }
            }
            return reached;
        }
    }

    /** The bytes that were fed and not taken yet, each 0 to 255. */
    private static final class Tape {
        private final int[] bytes = new int[MOST_BYTES];
        private int length;

        void append(int four) {
            for (int shift = 24; shift >= 0 && length < MOST_BYTES; shift -= 8) {
                bytes[length] = four >>> shift & 255;
                length++;
            }
        }

        int at(int place) {
            return place >= 0 && place < length ? bytes[place] : NONE;
        }
    }

    /** Clauses, each a kind and the spans in which a vehicle's gaps must lie. */
    private static final class Rules {
        private final int[] kindOfClause = new int[MOST_CLAUSES];
        private final int[] spansOfClause = new int[MOST_CLAUSES];
        private final int[][] least = new int[MOST_CLAUSES][MOST_SPANS];
        private final int[][] greatest = new int[MOST_CLAUSES][MOST_SPANS];
        private int size;

        void addClause(int kind) {
            if (size < MOST_CLAUSES) {
                kindOfClause[size] = kind;
                spansOfClause[size] = 0;
                size++;
            }
        }

        void addSpanToLast(int from, int to) {
            int last = size - 1;
            if (last >= 0 && spansOfClause[last] < MOST_SPANS) {
                int place = spansOfClause[last];
                least[last][place] = from;
                greatest[last][place] = to;
                spansOfClause[last]++;
            }
        }

        int kindOf(Tape tape, int start, int gaps) {
            for (int c = 0; c < size; c++) {
                if (spansOfClause[c] == gaps && isWithin(c, tape, start)) {
                    return kindOfClause[c];
                }
            }
            return KIND_OF_OTHERS;
        }

        private boolean isWithin(int c, Tape tape, int start) {
            for (int i = 0; i < spansOfClause[c]; i++) {
                int gap = tape.at(start + i);
                if (gap < least[c][i] || gap > greatest[c][i]) {
                    return false;
                }
            }
            return true;
        }
    }

    /** Reads rules from a text; its parts answer 0, or the first fault with its place. */
    private static final class RulesReader {
        private final Tape text;
        private int length;
        private int place;
        private int number;

        RulesReader(Tape text) {
            this.text = text;
        }

        int read(int n, Rules into) {
            length = n;
            place = 0;
            into.size = 0;
            int fault = 0;
            boolean more = n > 0;
            // a clause more than may be is a fault, which ends the loop
            for (int c = 0; more && c <= MOST_CLAUSES; c++) {
                fault = readClause(into);
                more = fault == 0 && sign() == ';';
                if (more) {
                    place++;
                }
            }
            return fault;
        }

        /** Reads up to the end of the text or the ; behind the clause. */
        private int readClause(Rules into) {
            int first = sign();
            if (!isDigit(first)) {
                return CANNOT_STAND + place;
            }
            // a clause too many is a fault as soon as it begins, before its kind is asked
            if (into.size >= MOST_CLAUSES) {
                return TENTH_CLAUSE + place;
            }
            if (first == '9') {
                return KIND_NINE + place;
            }
            into.addClause(first - '0');
            place++;
            if (sign() != ':') {
                return CANNOT_STAND + place;
            }
            return readSpans(into);
        }

        /** Each span stands behind one sign: the first behind the colon, the others behind a comma. */
        private int readSpans(Rules into) {
            boolean more = true;
            for (int i = 0; more && i < MOST_SPANS; i++) {
                place++;
                int fault = readSpan(into);
                if (fault != 0) {
                    return fault;
                }
                more = sign() == ',';
            }
            return place >= length || sign() == ';' ? 0 : CANNOT_STAND + place;
        }

        private int readSpan(Rules into) {
            int fault = readNumber(0);
            if (fault != 0) {
                return fault;
            }
            int from = number;
            if (sign() != '-') {
                return CANNOT_STAND + place;
            }
            place++;
            fault = readNumber(from);
            if (fault == 0) {
                into.addSpanToLast(from, number);
            }
            return fault;
        }

        private int readNumber(int lowest) {
            int start = place;
            number = 0;
            while (place < start + MOST_DIGITS && isDigit(sign())) {
                number = 10 * number + sign() - '0';
                place++;
            }
            if (place == start || isDigit(sign())) {
                return CANNOT_STAND + place;
            }
            return number < lowest || number > MOST_GAP ? WRONG_NUMBER + start : 0;
        }

        private int sign() {
            return place < length ? text.at(place) : NONE;
        }

        private static boolean isDigit(int sign) {
            return sign >= '0' && sign <= '9';
        }
    }
}
