/**
 * Power to the rails: a line fed by STATIONS that give and never take, and TRAINS that pull
 * AMPERES or give some back. The words in capitals are those of the document.
 */
public final class RailPower {
    public static final int UNKNOWN = -1, OUTSIDE = -2, STATE = -3, FULL = -4, NONE = -9;
    public static final long LOST = Long.MIN_VALUE;

    private static final int NULL_FAULT = 1, CAST_FAULT = 2, INDEX_FAULT = 3, SIZE_FAULT = 4;

    private static final int STATIONS = 5, TRAINS = 5, TICKS = 24, SHEETS = 4, CELLS = 60;
    private static final int HOUSE = 1, WORKS = 2;
    private static final int MOST_AMPERES = 400, MOST_PUT_OFF = 5, MOST_SWITCH = 100000;
    private static final int MOST_FAULT_AMPERES = 100000, MOST_PEAK_PUT_OFF = 2;
    private static final int AWAY = -1;

    private static final int LONG = 0, R = 1, V = 2, TOP = 3, LOW = 4, RULES = 5;
    private static final int[] LEAST_RULE = {1, 1, 100, 100, 1};
    private static final int[] GREATEST_RULE = {200, 20, 2000, 3000, 2000};

    // Far beyond all VOLTS and AMPERES there can be, and small enough to be multiplied.
    private static final long FAR = 1000000000L;

    private final Line line;
    private final Day day;
    private final Sheet[] sheets;
    private final Share share;
    private int traced;
    private int latestFault;

    public RailPower() {
        line = new Line();
        day = new Day(line);
        sheets = new Sheet[SHEETS];
        for (int k = 0; k < SHEETS; k++) {
            sheets[k] = new Sheet();
        }
        share = new Share();
    }

    // ---- 1 the line

    public int rule(int what, int v) {
        if (what < 0 || what >= RULES) {
            return UNKNOWN;
        }
        if (v < LEAST_RULE[what] || v > GREATEST_RULE[what]) {
            return OUTSIDE;
        }
        if (!line.allows(what, v)) {
            return STATE;
        }
        int was = line.rules[what];
        line.rules[what] = v;
        day.forget();
        return was;
    }

    public int station(int kind, int place) {
        if (kind < 0 || kind > WORKS || !line.hasPlace(place)) {
            return OUTSIDE;
        }
        if (line.hasStationAt(place)) {
            return STATE;
        }
        if (line.stationCount >= STATIONS) {
            return FULL;
        }
        int s = line.stationCount;
        line.stations[s].kind = kind;
        line.stations[s].place = place;
        line.stationCount = s + 1;
        day.forget();
        return s;
    }

    public int set(int s, boolean is) {
        if (!line.hasStation(s)) {
            return UNKNOWN;
        }
        if (line.stations[s].in == is) {
            return 0;
        }
        line.stations[s].in = is;
        day.forget();
        return 1;
    }

    public int trip(int s, int v) {
        if (!line.hasStation(s)) {
            return UNKNOWN;
        }
        if (v < 0 || v > MOST_SWITCH) {
            return OUTSIDE;
        }
        int was = line.stations[s].switchedAt;
        line.stations[s].switchedAt = v;
        return was;
    }

    public int about(int s, int what) {
        if (!line.hasStation(s)) {
            return UNKNOWN;
        }
        Station it = line.stations[s];
        switch (what) {
            case 0:
                return it.kind;
            case 1:
                return it.place;
            case 2:
                return it.in ? 1 : 0;
            case 3:
                return it.switchedAt;
            default:
                return OUTSIDE;
        }
    }

    // ---- 2 trains

    public int train() {
        if (line.trainCount >= TRAINS) {
            return FULL;
        }
        int n = line.trainCount;
        line.trainCount = n + 1;
        day.forget();
        return n;
    }

    public int run(int n, int tick, int place, int amperes) {
        if (!line.hasTrain(n) || !isTick(tick)) {
            return UNKNOWN;
        }
        if (!line.mayRun(place, amperes)) {
            return OUTSIDE;
        }
        line.trains[n].beAt(tick, place, amperes);
        day.forget();
        return 1;
    }

    public int runs(int n, int sheet, int lane, int i, int many) {
        latestFault = 0;
        if (!line.hasTrain(n) || !isSheet(sheet)) {
            return UNKNOWN;
        }
        if (!isLane(lane)) {
            return OUTSIDE;
        }
        Sheet from = sheets[sheet];
        int failing = from.failingAs(lane);
        if (failing == 0 && many < 0) {
            failing = SIZE_FAULT;
        }
        if (failing == 0 && !from.holdsFrom(i, 2L * many)) {
            failing = INDEX_FAULT;
        }
        if (failing != 0) {
            return failed(failing);
        }
        if (many > TICKS || !mayRunBy(from, i, many)) {
            return OUTSIDE;
        }
        day.forget();
        return runBy(line.trains[n], from, i, many);
    }

    public int putOff(int n, int k) {
        if (!line.hasTrain(n)) {
            return UNKNOWN;
        }
        if (k < 0 || k > MOST_PUT_OFF) {
            return OUTSIDE;
        }
        int was = line.off[n];
        line.off[n] = k;
        day.forget();
        return was;
    }

    public int at(int n, int tick, int what) {
        if (!line.hasTrain(n) || !isTick(tick)) {
            return UNKNOWN;
        }
        if (what < 0 || what > 2) {
            return OUTSIDE;
        }
        if (what == 2 && line.isDark()) {
            return STATE;
        }
        int told = tick - line.off[n];
        if (!isTick(told) || line.trains[n].places[told] == AWAY) {
            return what == 0 ? NONE : 0;
        }
        if (what == 0) {
            return line.trains[n].places[told];
        }
        if (what == 1) {
            return line.trains[n].amperes[told];
        }
        day.solve(tick);
        return day.circuit.amperes[n];
    }

    public int feeds(int tick) {
        if (!isTick(tick)) {
            return UNKNOWN;
        }
        if (line.isDark()) {
            return STATE;
        }
        day.solve(tick);
        return day.circuit.bits();
    }

    public long volts(int tick, int place, int which) {
        if (!isTick(tick) || !line.hasPlace(place) || !isHalf(which) || line.isDark()) {
            return LOST;
        }
        day.solve(tick);
        day.circuit.voltsAt(place, share);
        return share.told(which);
    }

    public long gives(int tick, int s, int which) {
        if (!isTick(tick) || !line.hasStation(s) || !isHalf(which) || line.isDark()) {
            return LOST;
        }
        day.solve(tick);
        day.circuit.givenBy(s, share);
        return share.told(which);
    }

    // ---- 3 the day

    public long lowest(int what) {
        if (what < 0 || what > 3 || line.isDark()) {
            return LOST;
        }
        day.takeStations(NONE);
        if (!day.findLowest(-FAR, 1)) {
            return LOST;
        }
        if (what == 2) {
            return day.lowTick;
        }
        return what == 3 ? day.lowTrain : day.low.told(what);
    }

    public int safe() {
        if (line.isDark()) {
            return STATE;
        }
        return day.isSafeWithout(NONE) ? 1 : 0;
    }

    public int firstOut() {
        if (line.isDark()) {
            return STATE;
        }
        for (int s = 0; s < line.stationCount; s++) {
            if (line.stations[s].in && !day.isSafeWithout(s)) {
                return s;
            }
        }
        return NONE;
    }

    public long most(int which) {
        if (!isHalf(which) || line.isDark()) {
            return LOST;
        }
        day.takeStations(NONE);
        day.findMost(line.off, FAR, 1);
        return day.high.told(which);
    }

    public int shorted(int x, int f) {
        if (!line.hasPlace(x)) {
            return UNKNOWN;
        }
        if (!isFaultCurrent(f)) {
            return OUTSIDE;
        }
        if (line.isDark()) {
            return STATE;
        }
        day.takeStations(NONE);
        day.feedFault(x, f);
        return day.circuit.bits();
    }

    public int right(int f) {
        if (!isFaultCurrent(f)) {
            return OUTSIDE;
        }
        if (line.isDark()) {
            return STATE;
        }
        day.takeStations(NONE);
        if (day.trainsTrip()) {
            return 1;
        }
        return day.partsAll(f) ? 0 : 2;
    }

    public long peak(int k, int what) {
        boolean ofTrain = what >= 10;
        if (k < 1 || k > MOST_PEAK_PUT_OFF || (!ofTrain && !isHalf(what))) {
            return LOST;
        }
        if ((ofTrain && !line.hasTrain(what - 10)) || line.isDark()) {
            return LOST;
        }
        Peak peak = day.peaks[k - 1];
        if (!peak.known) {
            day.findPeak(k, peak);
        }
        return ofTrain ? peak.off[what - 10] : peak.most.told(what);
    }

    public long used(int n) {
        if (!line.hasTrain(n) || line.isDark()) {
            return LOST;
        }
        day.takeStations(NONE);
        return day.usedBy(n);
    }

    public long given(int s) {
        if (!line.hasStation(s) || line.isDark()) {
            return LOST;
        }
        day.takeStations(NONE);
        return day.givenBy(s);
    }

    public long best(int what) {
        if (what < 0 || what > 2 || line.stationCount >= STATIONS) {
            return LOST;
        }
        if (!day.bestKnown) {
            day.findBest();
        }
        if (day.bestPlace == NONE) {
            return LOST;
        }
        return what == 0 ? day.bestPlace : day.best.told(what - 1);
    }

    // ---- sheets, parts

    public int sheet(int k, int lane, int n) {
        latestFault = 0;
        if (!isSheet(k)) {
            return UNKNOWN;
        }
        if (!isLane(lane) || n > CELLS) {
            return OUTSIDE;
        }
        if (n < 0) {
            return failed(SIZE_FAULT);
        }
        sheets[k].renew(lane, n);
        return 1;
    }

    public int lose(int k) {
        if (!isSheet(k)) {
            return UNKNOWN;
        }
        if (sheets[k].lane == Sheet.NOTHING) {
            return 0;
        }
        sheets[k].lane = Sheet.NOTHING;
        return 1;
    }

    public int put(int k, int i, int v) {
        latestFault = 0;
        if (!isSheet(k)) {
            return UNKNOWN;
        }
        if (sheets[k].lane == Sheet.NOTHING) {
            return failed(NULL_FAULT);
        }
        if (!sheets[k].holds(i)) {
            return failed(INDEX_FAULT);
        }
        sheets[k].write(i, v);
        return 1;
    }

    public long cell(int k, int i, int lane) {
        latestFault = 0;
        if (!isSheet(k) || !isLane(lane)) {
            return LOST;
        }
        int failing = sheets[k].failingAs(lane);
        if (failing == 0 && !sheets[k].holds(i)) {
            failing = INDEX_FAULT;
        }
        if (failing != 0) {
            failed(failing);
            return LOST;
        }
        return sheets[k].cells[i];
    }

    public int tell(int s) {
        if (!line.hasStation(s)) {
            return UNKNOWN;
        }
        Station it = line.stations[s];
        if (it.kind == WORKS) {
            return tellWorks(it);
        }
        return it.kind == HOUSE ? tellHouse(it) : tellPost(it);
    }

    public int call(int s) {
        if (!line.hasStation(s)) {
            return UNKNOWN;
        }
        if (line.stations[s].kind == WORKS) {
            leaveTrace(5);
            return 50;
        }
        leaveTrace(4);
        return s;
    }

    public int as(int s, int kind) {
        latestFault = 0;
        if (!line.hasStation(s)) {
            return UNKNOWN;
        }
        if (kind < 0 || kind > WORKS) {
            return OUTSIDE;
        }
        // Each kind is all kinds of a lesser number, too.
        return kind <= line.stations[s].kind ? 1 : failed(CAST_FAULT);
    }

    public int trace() {
        return traced;
    }

    public int fault() {
        return latestFault;
    }

    public int many(int what) {
        switch (what) {
            case 0:
                return line.stationCount;
            case 1:
                return line.stationsIn();
            case 2:
                return line.trainCount;
            case 3:
                return day.busyTicks();
            default:
                return OUTSIDE;
        }
    }

    // ---- what the calls above share

    private static boolean isTick(int tick) {
        return tick >= 0 && tick < TICKS;
    }

    private static boolean isSheet(int k) {
        return k >= 0 && k < SHEETS;
    }

    private static boolean isLane(int lane) {
        return lane >= 0 && lane <= Sheet.INTS;
    }

    private static boolean isHalf(int which) {
        return which == 0 || which == 1;
    }

    private static boolean isFaultCurrent(int f) {
        return f >= 1 && f <= MOST_FAULT_AMPERES;
    }

    private int failed(int which) {
        latestFault = which;
        return -10 - which;
    }

    private boolean mayRunBy(Sheet from, int i, int many) {
        for (int t = 0; t < many; t++) {
            if (!line.mayRun(from.cells[i + 2 * t], from.cells[i + 2 * t + 1])) {
                return false;
            }
        }
        return true;
    }

    private static int runBy(Train train, Sheet from, int i, int many) {
        int there = 0;
        for (int t = 0; t < TICKS; t++) {
            if (t < many) {
                train.beAt(t, from.cells[i + 2 * t], from.cells[i + 2 * t + 1]);
            } else {
                train.beAt(t, AWAY, 0);
            }
            if (train.places[t] != AWAY) {
                there++;
            }
        }
        return there;
    }

    private void leaveTrace(int body) {
        traced = 31 * traced + body;
    }

    private int tellPost(Station it) {
        leaveTrace(1);
        return it.place;
    }

    private int tellHouse(Station it) {
        leaveTrace(2);
        return tellPost(it) + (it.in ? 1000 : 0);
    }

    private int tellWorks(Station it) {
        leaveTrace(3);
        int house = tellHouse(it);
        return house + tellPost(it);
    }

    /** A STATION, as told. */
    private static final class Station {
        int kind;
        int place;
        boolean in = true;
        int switchedAt = 3000;
    }

    /** A TRAIN, as told: where it would be if it were not PUT OFF. */
    private static final class Train {
        final int[] places = new int[TICKS];
        final int[] amperes = new int[TICKS];

        Train() {
            for (int t = 0; t < TICKS; t++) {
                places[t] = AWAY;
            }
        }

        void beAt(int tick, int place, int pulled) {
            places[tick] = place;
            amperes[tick] = pulled;
        }
    }

    /** A SHEET; its cells are made once and used again for each new row. */
    private static final class Sheet {
        static final int NOTHING = -1, BYTES = 0, SHORTS = 1, INTS = 2;

        final int[] cells = new int[CELLS];
        int lane = NOTHING;
        int length;

        void renew(int newLane, int n) {
            for (int i = 0; i < CELLS; i++) {
                cells[i] = 0;
            }
            lane = newLane;
            length = n;
        }

        int failingAs(int asLane) {
            if (lane == NOTHING) {
                return NULL_FAULT;
            }
            return lane == asLane ? 0 : CAST_FAULT;
        }

        boolean holds(int i) {
            return i >= 0 && i < length;
        }

        boolean holdsFrom(int i, long n) {
            return i >= 0 && i <= length && n <= length - i;
        }

        void write(int i, int v) {
            if (lane == BYTES) {
                cells[i] = (byte) v;
            } else {
                cells[i] = lane == SHORTS ? (short) v : v;
            }
        }
    }

    /** An exact share; its lower number is above 0. It is in least terms only where it is told. */
    private static final class Share {
        long upper;
        long lower = 1;

        void become(long newUpper, long newLower) {
            upper = newUpper;
            lower = newLower;
        }

        boolean isBelow(Share other) {
            return upper * other.lower < other.upper * lower;
        }

        /** This times a whole number, cut. */
        long times(long number) {
            return lower > 0 ? upper * number / lower : 0;
        }

        long told(int which) {
            long divisor = greatestDivisor(Math.abs(upper), lower);
            if (divisor <= 0) {
                return LOST;
            }
            return which == 0 ? upper / divisor : lower / divisor;
        }

        private static long greatestDivisor(long first, long second) {
            long a = first;
            long b = second;
            // 100 steps are more than two longs can need.
            for (int step = 0; step < 100 && b != 0; step++) {
                long rest = a % b;
                a = b;
                b = rest;
            }
            return a;
        }
    }

    /** LEAST PEAK for one k, kept until something changes. */
    private static final class Peak {
        final Share most = new Share();
        final int[] off = new int[TRAINS];
        boolean known;
    }

    /** What the calls have told of THE LINE, its STATIONS and its TRAINS. */
    private static final class Line {
        final int[] rules = {100, 1, 750, 900, 500};
        final Station[] stations = new Station[STATIONS];
        final Train[] trains = new Train[TRAINS];
        final int[] off = new int[TRAINS];
        int stationCount;
        int trainCount;

        Line() {
            for (int s = 0; s < STATIONS; s++) {
                stations[s] = new Station();
            }
            for (int n = 0; n < TRAINS; n++) {
                trains[n] = new Train();
            }
        }

        boolean hasStation(int s) {
            return s >= 0 && s < stationCount;
        }

        boolean hasTrain(int n) {
            return n >= 0 && n < trainCount;
        }

        boolean hasPlace(int x) {
            return x >= 0 && x <= rules[LONG];
        }

        boolean hasStationAt(int x) {
            for (int s = 0; s < stationCount; s++) {
                if (stations[s].place == x) {
                    return true;
                }
            }
            return false;
        }

        int stationsIn() {
            int in = 0;
            for (int s = 0; s < stationCount; s++) {
                if (stations[s].in) {
                    in++;
                }
            }
            return in;
        }

        boolean isDark() {
            return stationsIn() == 0;
        }

        boolean mayRun(int place, int amperes) {
            if (place == AWAY) {
                return true;
            }
            return hasPlace(place) && amperes >= -MOST_AMPERES && amperes <= MOST_AMPERES;
        }

        boolean allows(int what, int v) {
            switch (what) {
                case LONG:
                    return !isAnyBeyond(v);
                case V:
                    return v <= rules[TOP] && v >= rules[LOW];
                case TOP:
                    return rules[V] <= v;
                case LOW:
                    return rules[V] >= v;
                default:
                    return true;
            }
        }

        // TRAINS count as told, PUT OFF or not, for they may be PUT OFF less again.
        private boolean isAnyBeyond(int x) {
            for (int s = 0; s < stationCount; s++) {
                if (stations[s].place > x) {
                    return true;
                }
            }
            for (int n = 0; n < trainCount; n++) {
                for (int t = 0; t < TICKS; t++) {
                    if (trains[n].places[t] > x) {
                        return true;
                    }
                }
            }
            return false;
        }
    }

    /** STATIONS that are IN, the LOADS of one moment, and who FEEDS them. */
    private static final class Circuit {
        // Each TRAIN can be halved nine times at most: 400 to 0.
        private static final int MOST_HALVINGS = 9 * TRAINS;

        // Of STATIONS, in the order of their places.
        final int[] numbers = new int[STATIONS];
        final int[] places = new int[STATIONS];
        final boolean[] feeding = new boolean[STATIONS];
        final long[] upper = new long[STATIONS];
        final long[] lower = new long[STATIONS];
        int count;
        // Of LOADS, each by its TRAIN's number.
        final boolean[] there = new boolean[TRAINS];
        final int[] loaded = new int[TRAINS];
        final int[] amperes = new int[TRAINS];
        final int[] rules;
        private final Share here = new Share();
        private final Share highest = new Share();

        Circuit(int[] rules) {
            this.rules = rules;
        }

        void clearStations() {
            count = 0;
        }

        void addStation(int s, int x) {
            if (count >= STATIONS) {
                return;
            }
            int j = count;
            for (; j > 0 && places[j - 1] > x; j--) {
                places[j] = places[j - 1];
                numbers[j] = numbers[j - 1];
            }
            places[j] = x;
            numbers[j] = s;
            count++;
        }

        void clearLoads() {
            for (int n = 0; n < TRAINS; n++) {
                there[n] = false;
                amperes[n] = 0;
            }
        }

        void addLoad(int n, int x, int pulled) {
            there[n] = true;
            loaded[n] = x;
            amperes[n] = pulled;
        }

        /** Has AMPERES TAKEN BACK until LOADS are SOLVED. */
        void settle() {
            for (int step = 0; step <= MOST_HALVINGS; step++) {
                int back = findFeeding() ? highestIfAnyTooHigh() : givingBackMost();
                if (back < 0) {
                    return;
                }
                amperes[back] /= 2;
            }
        }

        /**
         * Finds the first set that FEEDS; false, if there is none: that is so just where more is
         * given back than pulled. From all STATIONS that are IN those that would take are left
         * out, until none would: one left out would only take more with fewer others left, so
         * none has to come back, and what is left is every STATION that has just V.
         */
        boolean findFeeding() {
            if (pulledTogether() < 0) {
                return false;
            }
            for (int j = 0; j < count; j++) {
                feeding[j] = true;
            }
            for (int round = 0; round < count; round++) {
                weigh();
                if (!leaveOutTaking()) {
                    break;
                }
            }
            leaveOutIdle();
            return true;
        }

        /** The set that FEEDS, as bits. */
        int bits() {
            int bits = 0;
            for (int j = 0; j < count; j++) {
                if (feeding[j]) {
                    bits |= 1 << numbers[j];
                }
            }
            return bits;
        }

        void givenBy(int s, Share into) {
            into.become(0, 1);
            for (int j = 0; j < count; j++) {
                if (feeding[j] && numbers[j] == s) {
                    into.become(upper[j], lower[j]);
                }
            }
        }

        /** Raises a share to the most that one STATION gives, if that is more. */
        void raiseToMost(Share most) {
            for (int j = 0; j < count; j++) {
                if (feeding[j]) {
                    here.become(upper[j], lower[j]);
                    if (most.isBelow(here)) {
                        most.become(upper[j], lower[j]);
                    }
                }
            }
        }

        void voltsAt(int x, Share into) {
            int before = -1;
            int after = -1;
            for (int j = 0; j < count; j++) {
                if (feeding[j] && places[j] <= x) {
                    before = j;
                }
                if (feeding[j] && places[j] >= x && after < 0) {
                    after = j;
                }
            }
            long gap = 1;
            long lost = 0;
            if (before >= 0 && after > before) {
                gap = places[after] - places[before];
                lost = lostBetween(places[before], places[after], x);
            } else if (before != after) {
                lost = lostBeyond(places[Math.max(before, after)], x);
            }
            into.become(1000L * rules[V] * gap - rules[R] * lost, 1000 * gap);
        }

        private long lostBetween(int a, int b, int x) {
            long lost = 0;
            for (int n = 0; n < TRAINS; n++) {
                int y = loaded[n];
                if (there[n] && y > a && y < b) {
                    lost += (long) amperes[n] * (Math.min(x, y) - a) * (b - Math.max(x, y));
                }
            }
            return lost;
        }

        private long lostBeyond(int a, int x) {
            long lost = 0;
            for (int n = 0; n < TRAINS; n++) {
                int y = loaded[n];
                if (there[n] && (y > a) == (x > a)) {
                    lost += (long) amperes[n] * Math.min(Math.abs(x - a), Math.abs(y - a));
                }
            }
            return lost;
        }

        private long pulledTogether() {
            long pulled = 0;
            for (int n = 0; n < TRAINS; n++) {
                pulled += amperes[n];
            }
            return pulled;
        }

        /** What each of the set gives. */
        private void weigh() {
            int before = -1;
            for (int j = 0; j < count; j++) {
                if (feeding[j]) {
                    weighOne(j, before, nextFeeding(j));
                    before = j;
                }
            }
        }

        private int nextFeeding(int j) {
            for (int i = j + 1; i < count; i++) {
                if (feeding[i]) {
                    return i;
                }
            }
            return -1;
        }

        // A side without a neighbour counts as a gap of 1, of which each LOAD has all.
        private void weighOne(int j, int before, int after) {
            int a = places[j];
            long left = before < 0 ? 1 : a - places[before];
            long right = after < 0 ? 1 : places[after] - a;
            long sum = 0;
            for (int n = 0; n < TRAINS; n++) {
                if (!there[n]) {
                    continue;
                }
                int y = loaded[n];
                if (y < a) {
                    sum += amperes[n] * right * (before < 0 ? 1 : Math.max(0, y - places[before]));
                } else if (y > a) {
                    sum += amperes[n] * left * (after < 0 ? 1 : Math.max(0, places[after] - y));
                } else {
                    sum += amperes[n] * left * right;
                }
            }
            upper[j] = sum;
            lower[j] = left * right;
        }

        private boolean leaveOutTaking() {
            boolean some = false;
            for (int j = 0; j < count; j++) {
                if (feeding[j] && upper[j] < 0) {
                    feeding[j] = false;
                    some = true;
                }
            }
            return some;
        }

        // Of several sets that FEED the first has no STATION that gives nothing, but for the one
        // of the least number where none gives anything.
        private void leaveOutIdle() {
            int first = -1;
            boolean someGives = false;
            for (int j = 0; j < count; j++) {
                if (feeding[j]) {
                    someGives = someGives || upper[j] > 0;
                    if (first < 0 || numbers[j] < numbers[first]) {
                        first = j;
                    }
                }
            }
            for (int j = 0; j < count; j++) {
                if (upper[j] == 0 && (someGives || j != first)) {
                    feeding[j] = false;
                }
            }
        }

        private int givingBackMost() {
            int most = -1;
            for (int n = 0; n < TRAINS; n++) {
                if (amperes[n] < 0 && (most < 0 || amperes[n] < amperes[most])) {
                    most = n;
                }
            }
            return most;
        }

        /** Of TRAINS that give back the one with the highest VOLTS; -1, if none has too many. */
        private int highestIfAnyTooHigh() {
            // VOLTS are above V, and so above TOP, only where some TRAIN gives back.
            if (givingBackMost() < 0) {
                return -1;
            }
            int at = -1;
            boolean tooHigh = false;
            for (int n = 0; n < TRAINS; n++) {
                if (!there[n]) {
                    continue;
                }
                voltsAt(loaded[n], here);
                tooHigh = tooHigh || here.upper > rules[TOP] * here.lower;
                if (amperes[n] < 0 && (at < 0 || highest.isBelow(here))) {
                    at = n;
                    highest.become(here.upper, here.lower);
                }
            }
            return tooHigh ? at : -1;
        }
    }

    /** THE DAY: TICK after TICK through one circuit. */
    private static final class Day {
        final Circuit circuit;
        // LOWEST, as it was found last.
        final Share low = new Share();
        int lowTick;
        int lowTrain;
        // MOST, as it was found last.
        final Share high = new Share();
        final Peak[] peaks = new Peak[MOST_PEAK_PUT_OFF];
        // BEST NEW; its place is NONE, if there is none.
        final Share best = new Share();
        int bestPlace = NONE;
        boolean bestKnown;
        private final Line line;
        private final Share here = new Share();
        private final Share bar = new Share();
        private final int[] trial = new int[TRAINS];

        Day(Line line) {
            this.line = line;
            circuit = new Circuit(line.rules);
            for (int k = 0; k < MOST_PEAK_PUT_OFF; k++) {
                peaks[k] = new Peak();
            }
        }

        /** What was found before may be other now. */
        void forget() {
            bestKnown = false;
            for (int k = 0; k < MOST_PEAK_PUT_OFF; k++) {
                peaks[k].known = false;
            }
        }

        void takeStations(int without) {
            circuit.clearStations();
            for (int s = 0; s < line.stationCount; s++) {
                if (line.stations[s].in && s != without) {
                    circuit.addStation(s, line.stations[s].place);
                }
            }
        }

        void solve(int tick) {
            takeStations(NONE);
            takeLoads(tick, line.off);
            circuit.settle();
        }

        /** LOADS of a TICK, with TRAINS PUT OFF so; whether there are some. */
        private boolean takeLoads(int tick, int[] off) {
            boolean some = false;
            circuit.clearLoads();
            for (int n = 0; n < line.trainCount; n++) {
                int told = tick - off[n];
                if (isTick(told) && line.trains[n].places[told] != AWAY) {
                    circuit.addLoad(n, line.trains[n].places[told], line.trains[n].amperes[told]);
                    some = true;
                }
            }
            return some;
        }

        int busyTicks() {
            int busy = 0;
            for (int tick = 0; tick < TICKS; tick++) {
                if (takeLoads(tick, line.off)) {
                    busy++;
                }
            }
            return busy;
        }

        /**
         * LOWEST, with the circuit's STATIONS; false, if there is no TRAIN. It is not looked for
         * further, once it is the share of these two numbers or less.
         */
        boolean findLowest(long enoughUpper, long enoughLower) {
            boolean found = false;
            bar.become(enoughUpper, enoughLower);
            for (int tick = 0; tick < TICKS; tick++) {
                if (takeLoads(tick, line.off)) {
                    circuit.settle();
                    sinkToLowest(tick, found);
                    found = true;
                    if (!bar.isBelow(low)) {
                        break;
                    }
                }
            }
            return found;
        }

        private void sinkToLowest(int tick, boolean foundBefore) {
            boolean found = foundBefore;
            for (int n = 0; n < line.trainCount; n++) {
                if (circuit.there[n]) {
                    circuit.voltsAt(circuit.loaded[n], here);
                    if (!found || here.isBelow(low)) {
                        low.become(here.upper, here.lower);
                        lowTick = tick;
                        lowTrain = n;
                        found = true;
                    }
                }
            }
        }

        boolean isSafeWithout(int s) {
            takeStations(s);
            if (circuit.count == 0) {
                return false;
            }
            return !findLowest(-FAR, 1) || low.upper >= line.rules[LOW] * low.lower;
        }

        /**
         * MOST, with the circuit's STATIONS and TRAINS PUT OFF so. It is not looked for further,
         * once it is the share of these two numbers or more.
         */
        void findMost(int[] off, long enoughUpper, long enoughLower) {
            bar.become(enoughUpper, enoughLower);
            high.become(0, 1);
            for (int tick = 0; tick < TICKS; tick++) {
                if (takeLoads(tick, off)) {
                    circuit.settle();
                    circuit.raiseToMost(high);
                    if (!high.isBelow(bar)) {
                        return;
                    }
                }
            }
        }

        void feedFault(int x, int f) {
            circuit.clearLoads();
            circuit.addLoad(0, x, f);
            circuit.findFeeding();
        }

        boolean trainsTrip() {
            for (int tick = 0; tick < TICKS; tick++) {
                takeLoads(tick, line.off);
                circuit.settle();
                if (someTrips()) {
                    return true;
                }
            }
            return false;
        }

        boolean partsAll(int f) {
            for (int x = 0; x <= line.rules[LONG]; x++) {
                feedFault(x, f);
                if (!someTrips()) {
                    return false;
                }
            }
            return true;
        }

        private boolean someTrips() {
            for (int j = 0; j < circuit.count; j++) {
                long at = line.stations[circuit.numbers[j]].switchedAt;
                if (circuit.feeding[j] && circuit.upper[j] >= at * circuit.lower[j]) {
                    return true;
                }
            }
            return false;
        }

        void findPeak(int k, Peak peak) {
            int ways = 1;
            for (int n = 0; n < line.trainCount; n++) {
                ways *= k + 1;
            }
            takeStations(NONE);
            peak.most.become(FAR, 1);
            for (int way = 0; way < ways; way++) {
                spread(way, k + 1);
                findMost(trial, peak.most.upper, peak.most.lower);
                if (high.isBelow(peak.most)) {
                    peak.most.become(high.upper, high.lower);
                    for (int n = 0; n < TRAINS; n++) {
                        peak.off[n] = trial[n];
                    }
                }
            }
            peak.known = true;
        }

        // The last TRAIN changes first, so that ways come in their order as rows.
        private void spread(int way, int choices) {
            int rest = way;
            for (int n = line.trainCount - 1; n >= 0; n--) {
                trial[n] = choices > 0 ? rest % choices : 0;
                rest = choices > 0 ? rest / choices : 0;
            }
        }

        long usedBy(int n) {
            long sum = 0;
            for (int tick = 0; tick < TICKS; tick++) {
                takeLoads(tick, line.off);
                if (circuit.there[n]) {
                    circuit.settle();
                    circuit.voltsAt(circuit.loaded[n], here);
                    sum += here.times(circuit.amperes[n]);
                }
            }
            return sum;
        }

        long givenBy(int s) {
            long sum = 0;
            for (int tick = 0; tick < TICKS; tick++) {
                if (takeLoads(tick, line.off)) {
                    circuit.settle();
                    circuit.givenBy(s, here);
                    sum += here.times(line.rules[V]);
                }
            }
            return sum;
        }

        void findBest() {
            bestPlace = NONE;
            best.become(-FAR, 1);
            for (int x = 0; x <= line.rules[LONG]; x++) {
                if (!line.hasStationAt(x)) {
                    takeStations(NONE);
                    circuit.addStation(line.stationCount, x);
                    if (findLowest(best.upper, best.lower) && best.isBelow(low)) {
                        best.become(low.upper, low.lower);
                        bestPlace = x;
                    }
                }
            }
            bestKnown = true;
        }
    }
}
