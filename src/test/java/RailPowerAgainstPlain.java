import java.util.ArrayList;
import java.util.List;
import java.util.Random;

/**
 * Runs of calls, drawn from fixed seeds, on RailPower and on a plain model that follows the
 * document word by word: every set of STATIONS is tried, every way to put TRAINS off, every place.
 * An argument, if given, is how many runs there are.
 */
public final class RailPowerAgainstPlain {
    private static final int RUNS = 1500;
    private static final int CALLS = 120;

    private static int wrong = 0;

    public static void main(String[] args) {
        int runs = args.length > 0 ? Integer.parseInt(args[0]) : RUNS;
        for (int seed = 0; seed < runs && wrong < 20; seed++) {
            new Run(seed).go();
        }
        System.out.println(wrong == 0 ? runs + " runs answer as the plain model does"
                : wrong + " answers are not as due");
        if (wrong != 0) {
            System.exit(1);
        }
    }

    /** One run: a line is built, then all calls come in any order. */
    private static final class Run {
        private final int seed;
        private final Random random;
        private final RailPower tested = new RailPower();
        private final Plain plain = new Plain();
        private final List<String> calls = new ArrayList<>();
        private int longest = 100;
        private boolean right = true;
        private boolean round;

        Run(int seed) {
            this.seed = seed;
            this.random = new Random(seed);
        }

        void go() {
            build();
            for (int i = 0; i < CALLS && right; i++) {
                any();
            }
        }

        private void due(String call, long got, long want) {
            calls.add(call + " = " + want);
            if (got != want && right) {
                right = false;
                wrong++;
                System.out.println("run " + seed + ": " + call + " answered " + got + ", due is " + want);
                System.out.println("  after " + calls);
            }
        }

        private int from(int least, int greatest) {
            return least + random.nextInt(greatest - least + 1);
        }

        private int pick(int... numbers) {
            return numbers[random.nextInt(numbers.length)];
        }

        private void build() {
            round = random.nextBoolean();
            longest = pick(1, 2, 3, 5, 10, 20, 40, 100, 200, 200);
            rule(0, longest);
            rule(1, round ? pick(1, 10, 20) : from(1, 20));
            if (random.nextInt(3) == 0) {
                rule(3, pick(750, 751, 760, 800, 1000, 3000));
            }
            if (random.nextInt(3) == 0) {
                rule(4, pick(1, 600, 700, 740, 749, 750));
            }
            int stations = from(0, 5);
            for (int s = 0; s < stations; s++) {
                station(from(0, 2), place());
                if (random.nextInt(5) == 0) {
                    set(s, false);
                }
                if (random.nextInt(3) == 0) {
                    trip(s, pick(0, 1, 100, 300, 500, 1000));
                }
            }
            int trains = from(0, 5);
            int busy = pick(0, 1, 2, 3, 12, 24);
            for (int n = 0; n < trains; n++) {
                train();
                for (int t = 0; t < busy; t++) {
                    run(n, busy > 3 ? t : from(0, 23), random.nextInt(6) == 0 ? -1 : place(), amperes());
                }
            }
        }

        private int place() {
            return round && longest >= 10 ? from(0, longest / 10) * 10 : from(0, longest);
        }

        private int amperes() {
            switch (random.nextInt(6)) {
                case 0:
                    return pick(-400, -399, -1, 0, 1, 399, 400);
                case 1:
                    return round ? from(-4, 0) * 100 : from(-400, 0);
                case 2:
                    return round ? from(-2, 2) * 50 : from(-5, 5);
                default:
                    return round ? from(-2, 4) * 100 : from(-200, 400);
            }
        }

        // Mostly what there is, sometimes just beside it, seldom far off.
        private int edge(int least, int greatest) {
            int dice = random.nextInt(30);
            if (dice == 0) {
                return pick(Integer.MIN_VALUE, Integer.MAX_VALUE, Integer.MIN_VALUE + 1, Integer.MAX_VALUE - 1);
            }
            if (dice < 4) {
                return pick(least - 1, greatest + 1);
            }
            return greatest < least ? least : from(least, greatest);
        }

        private int stationNumber() {
            return edge(0, Math.max(0, plain.stations.size() - 1));
        }

        private int trainNumber() {
            return edge(0, Math.max(0, plain.trains.size() - 1));
        }

        private int tick() {
            return edge(0, random.nextBoolean() ? 23 : 3);
        }

        private void any() {
            switch (random.nextInt(40)) {
                case 0 -> anyRule();
                case 1 -> station(edge(0, 2), random.nextBoolean() ? place() : edge(0, longest));
                case 2, 3 -> set(stationNumber(), random.nextInt(3) != 0);
                case 4 -> trip(stationNumber(), random.nextBoolean() ? pick(0, 1, 200, 400) : edge(0, 100000));
                case 5 -> anyAbout();
                case 6 -> train();
                case 7, 8 -> run(trainNumber(), tick(), random.nextBoolean() ? place() : edge(-1, longest),
                        random.nextBoolean() ? amperes() : edge(-400, 400));
                case 9, 10 -> anyRuns();
                case 11, 12 -> putOff(trainNumber(), edge(0, 5));
                case 13 -> anyAt();
                case 14, 15 -> feeds(tick());
                case 16, 17 -> volts(tick(), edge(0, longest), edge(0, 1));
                case 18, 19 -> gives(tick(), stationNumber(), edge(0, 1));
                case 20 -> lowest();
                case 21 -> due("safe()", tested.safe(), plain.safe());
                case 22 -> due("firstOut()", tested.firstOut(), plain.firstOut());
                case 23 -> most();
                case 24 -> shorted(edge(0, longest), edge(1, 100000));
                case 25 -> anyRight();
                case 26 -> anyPeak();
                case 27 -> used(trainNumber());
                case 28 -> given(stationNumber());
                case 29 -> anyBest();
                case 30, 31 -> anySheet();
                case 32 -> lose(edge(0, 3));
                case 33, 34 -> put(edge(0, 3), edge(0, 20), random.nextBoolean() ? random.nextInt() : amperes());
                case 35 -> cell(edge(0, 3), edge(0, 20), edge(0, 2));
                case 36 -> anyPart();
                case 37 -> as(stationNumber(), edge(0, 2));
                default -> many(edge(0, 3));
            }
            due("fault()", tested.fault(), plain.fault);
        }

        private void anyRule() {
            int what = edge(0, 4);
            int[] least = {1, 1, 100, 100, 1};
            int[] greatest = {200, 20, 2000, 3000, 2000};
            if (what < 0 || what > 4) {
                rule(what, 5);
            } else if (what > 1 && random.nextBoolean()) {
                rule(what, plain.rules[2] + from(-2, 2));
            } else {
                rule(what, edge(least[what], greatest[what]));
            }
        }

        private void anyAbout() {
            int s = stationNumber();
            int what = edge(0, 3);
            due("about(" + s + ", " + what + ")", tested.about(s, what), plain.about(s, what));
        }

        private void anyRuns() {
            int k = random.nextInt(4);
            int n = trainNumber();
            int lane = plain.sheets[k] == null || random.nextInt(5) == 0 ? edge(0, 2) : plain.sheets[k].lane;
            int length = plain.sheets[k] == null ? 10 : plain.sheets[k].cells.length;
            int i = random.nextBoolean() ? 0 : edge(0, length);
            int many = random.nextBoolean() ? edge(0, length / 2) : edge(0, Math.max(0, (length - i) / 2));
            if (plain.sheets[k] != null && random.nextInt(3) != 0) {
                for (int c = 0; c + 1 < length; c += 2) {
                    put(k, c, random.nextInt(5) == 0 ? -1 : place());
                    put(k, c + 1, random.nextInt(40) == 0 ? 401 : amperes());
                }
            }
            int sheet = random.nextInt(20) == 0 ? edge(0, 3) : k;
            due("runs(" + n + ", " + sheet + ", " + lane + ", " + i + ", " + many + ")",
                    tested.runs(n, sheet, lane, i, many), plain.runs(n, sheet, lane, i, many));
            for (int t = 0; t < 24; t += 3) {
                if (n >= 0 && n < plain.trains.size()) {
                    due("at(" + n + ", " + t + ", 1)", tested.at(n, t, 1), plain.at(n, t, 1));
                }
            }
        }

        private void anyAt() {
            int n = trainNumber();
            int tick = tick();
            for (int what = -1; what <= 3; what++) {
                due("at(" + n + ", " + tick + ", " + what + ")", tested.at(n, tick, what), plain.at(n, tick, what));
            }
        }

        private void lowest() {
            for (int what = -1; what <= 4; what++) {
                due("lowest(" + what + ")", tested.lowest(what), plain.lowest(what));
            }
        }

        private void most() {
            for (int which = -1; which <= 2; which++) {
                due("most(" + which + ")", tested.most(which), plain.most(which));
            }
        }

        private void anyRight() {
            int f = random.nextBoolean() ? pick(1, 100, 500, 2000, 10000) : edge(1, 100000);
            due("right(" + f + ")", tested.right(f), plain.right(f));
        }

        private void anyPeak() {
            int k = edge(1, 2);
            if (plain.trains.size() > 3 && random.nextInt(8) != 0) {
                return;
            }
            long[] row = plain.peaks(k);
            for (int what = -1; what <= 16; what++) {
                due("peak(" + k + ", " + what + ")", tested.peak(k, what), plain.peak(k, what, row));
            }
        }

        private void anyBest() {
            if (longest > 20 && random.nextInt(8) != 0) {
                return;
            }
            Plain.Low[] found = new Plain.Low[1];
            int place = plain.bestPlace(found);
            for (int what = -1; what <= 3; what++) {
                due("best(" + what + ")", tested.best(what), plain.best(what, place, found[0]));
            }
        }

        private void anySheet() {
            int k = edge(0, 3);
            int lane = edge(0, 2);
            int n = random.nextBoolean() ? edge(0, 60) : edge(0, 20);
            due("sheet(" + k + ", " + lane + ", " + n + ")", tested.sheet(k, lane, n), plain.sheet(k, lane, n));
        }

        private void anyPart() {
            int s = stationNumber();
            if (random.nextBoolean()) {
                due("tell(" + s + ")", tested.tell(s), plain.tell(s));
            } else {
                due("call(" + s + ")", tested.call(s), plain.call(s));
            }
            due("trace()", tested.trace(), plain.trace);
        }

        private void rule(int what, int v) {
            due("rule(" + what + ", " + v + ")", tested.rule(what, v), plain.rule(what, v));
            longest = plain.rules[0];
        }

        private void station(int kind, int place) {
            due("station(" + kind + ", " + place + ")", tested.station(kind, place), plain.station(kind, place));
        }

        private void set(int s, boolean is) {
            due("set(" + s + ", " + is + ")", tested.set(s, is), plain.set(s, is));
        }

        private void trip(int s, int v) {
            due("trip(" + s + ", " + v + ")", tested.trip(s, v), plain.trip(s, v));
        }

        private void train() {
            due("train()", tested.train(), plain.train());
        }

        private void run(int n, int tick, int place, int amperes) {
            due("run(" + n + ", " + tick + ", " + place + ", " + amperes + ")",
                    tested.run(n, tick, place, amperes), plain.run(n, tick, place, amperes));
        }

        private void putOff(int n, int k) {
            due("putOff(" + n + ", " + k + ")", tested.putOff(n, k), plain.putOff(n, k));
        }

        private void feeds(int tick) {
            due("feeds(" + tick + ")", tested.feeds(tick), plain.feeds(tick));
        }

        private void volts(int tick, int place, int which) {
            due("volts(" + tick + ", " + place + ", " + which + ")",
                    tested.volts(tick, place, which), plain.volts(tick, place, which));
        }

        private void gives(int tick, int s, int which) {
            due("gives(" + tick + ", " + s + ", " + which + ")",
                    tested.gives(tick, s, which), plain.gives(tick, s, which));
        }

        private void shorted(int x, int f) {
            due("shorted(" + x + ", " + f + ")", tested.shorted(x, f), plain.shorted(x, f));
        }

        private void used(int n) {
            due("used(" + n + ")", tested.used(n), plain.used(n));
        }

        private void given(int s) {
            due("given(" + s + ")", tested.given(s), plain.given(s));
        }

        private void lose(int k) {
            due("lose(" + k + ")", tested.lose(k), plain.lose(k));
        }

        private void put(int k, int i, int v) {
            due("put(" + k + ", " + i + ", " + v + ")", tested.put(k, i, v), plain.put(k, i, v));
        }

        private void cell(int k, int i, int lane) {
            due("cell(" + k + ", " + i + ", " + lane + ")", tested.cell(k, i, lane), plain.cell(k, i, lane));
        }

        private void as(int s, int kind) {
            due("as(" + s + ", " + kind + ")", tested.as(s, kind), plain.as(s, kind));
        }

        private void many(int what) {
            due("many(" + what + ")", tested.many(what), plain.many(what));
        }
    }

    /** An exact number, in least terms. */
    private record Exact(long upper, long lower) implements Comparable<Exact> {
        static final Exact ZERO = new Exact(0, 1);

        static Exact of(long upper, long lower) {
            long a = Math.abs(upper);
            long b = Math.abs(lower);
            while (b != 0) {
                long rest = a % b;
                a = b;
                b = rest;
            }
            long sign = lower < 0 ? -1 : 1;
            return new Exact(sign * upper / a, sign * lower / a);
        }

        Exact plus(Exact o) {
            return of(Math.addExact(Math.multiplyExact(upper, o.lower), Math.multiplyExact(o.upper, lower)),
                    Math.multiplyExact(lower, o.lower));
        }

        Exact times(Exact o) {
            return of(Math.multiplyExact(upper, o.upper), Math.multiplyExact(lower, o.lower));
        }

        Exact times(long o) {
            return times(new Exact(o, 1));
        }

        Exact minus(Exact o) {
            return plus(o.times(-1));
        }

        long cut() {
            return upper / lower;
        }

        @Override
        public int compareTo(Exact o) {
            return Long.compare(Math.multiplyExact(upper, o.lower), Math.multiplyExact(o.upper, lower));
        }

        boolean atLeast(long o) {
            return compareTo(new Exact(o, 1)) >= 0;
        }
    }

    /** The document, word by word. */
    private static final class Plain {
        static final long LOST = Long.MIN_VALUE;

        static final class Station {
            int kind;
            int place;
            boolean in = true;
            int tripsAt = 3000;
        }

        static final class Train {
            Integer[] place = new Integer[24];
            int[] amperes = new int[24];
            int off;
        }

        static final class Sheet {
            int lane;
            int[] cells;
        }

        record Load(int train, int place, int amperes) { }

        record Low(Exact volts, int tick, int train) { }

        /** LOADS and the set of STATIONS that FEEDS them (0: none does). */
        record Solved(List<Load> loads, int set) { }

        final int[] rules = {100, 1, 750, 900, 500};
        final List<Station> stations = new ArrayList<>();
        final List<Train> trains = new ArrayList<>();
        final Sheet[] sheets = new Sheet[4];
        int trace;
        int fault;

        // ---- the line

        private List<Integer> placesOf(int set) {
            List<Integer> places = new ArrayList<>();
            for (int s = 0; s < stations.size(); s++) {
                if ((set >> s & 1) != 0) {
                    places.add(stations.get(s).place);
                }
            }
            places.sort(null);
            return places;
        }

        private Exact voltsAt(int set, List<Load> loads, int x) {
            List<Integer> places = placesOf(set);
            Integer before = null;
            Integer after = null;
            for (int place : places) {
                if (place == x) {
                    return new Exact(rules[2], 1);
                }
                if (place < x) {
                    before = place;
                } else if (after == null) {
                    after = place;
                }
            }
            Exact sum = Exact.ZERO;
            for (Load load : loads) {
                int y = load.place();
                if (before != null && after != null) {
                    if (y > before && y < after) {
                        sum = sum.plus(Exact.of((long) load.amperes() * (Math.min(x, y) - before)
                                * (after - Math.max(x, y)), after - before));
                    }
                } else if (before != null) {
                    if (y > before) {
                        sum = sum.plus(new Exact((long) load.amperes() * Math.min(x - before, y - before), 1));
                    }
                } else if (y < after) {
                    sum = sum.plus(new Exact((long) load.amperes() * Math.min(after - x, after - y), 1));
                }
            }
            return new Exact(rules[2], 1).minus(sum.times(Exact.of(rules[1], 1000)));
        }

        private Exact givenBy(int set, List<Load> loads, int s) {
            if ((set >> s & 1) == 0) {
                return Exact.ZERO;
            }
            List<Integer> places = placesOf(set);
            int a = stations.get(s).place;
            int at = places.indexOf(a);
            Exact sum = Exact.ZERO;
            for (Load load : loads) {
                int y = load.place();
                Integer b = y < a ? (at > 0 ? places.get(at - 1) : null)
                        : (at + 1 < places.size() ? places.get(at + 1) : null);
                if (y == a || b == null) {
                    sum = sum.plus(new Exact(load.amperes(), 1));
                } else if (y > Math.min(a, b) && y < Math.max(a, b)) {
                    sum = sum.plus(Exact.of((long) load.amperes() * Math.abs(y - b), Math.abs(a - b)));
                }
            }
            return sum;
        }

        private boolean setFeeds(int set, List<Load> loads) {
            for (int s = 0; s < stations.size(); s++) {
                if ((set >> s & 1) != 0) {
                    if (!stations.get(s).in || !givenBy(set, loads, s).atLeast(0)) {
                        return false;
                    }
                }
            }
            for (int s = 0; s < stations.size(); s++) {
                if ((set >> s & 1) == 0 && stations.get(s).in
                        && !voltsAt(set, loads, stations.get(s).place).atLeast(rules[2])) {
                    return false;
                }
            }
            return true;
        }

        private int firstSet(List<Load> loads) {
            for (int set = 1; set < 1 << stations.size(); set++) {
                if (setFeeds(set, loads)) {
                    return set;
                }
            }
            return 0;
        }

        // ---- trains

        private List<Load> loadsAt(int tick, int[] off) {
            List<Load> loads = new ArrayList<>();
            for (int n = 0; n < trains.size(); n++) {
                int told = tick - off[n];
                if (told >= 0 && trains.get(n).place[told] != null) {
                    loads.add(new Load(n, trains.get(n).place[told], trains.get(n).amperes[told]));
                }
            }
            return loads;
        }

        private int[] offs() {
            return trains.stream().mapToInt(train -> train.off).toArray();
        }

        private Solved solve(List<Load> told) {
            List<Load> loads = new ArrayList<>(told);
            while (true) {
                int set = firstSet(loads);
                boolean tooHigh = set == 0;
                int at = -1;
                Exact highest = null;
                for (int i = 0; i < loads.size(); i++) {
                    Exact measure = set == 0 ? new Exact(-loads.get(i).amperes(), 1)
                            : voltsAt(set, loads, loads.get(i).place());
                    tooHigh |= set != 0 && measure.compareTo(new Exact(rules[3], 1)) > 0;
                    if (loads.get(i).amperes() < 0 && (at < 0 || measure.compareTo(highest) > 0)) {
                        at = i;
                        highest = measure;
                    }
                }
                if (!tooHigh) {
                    return new Solved(loads, set);
                }
                Load back = loads.get(at);
                loads.set(at, new Load(back.train(), back.place(), back.amperes() / 2));
            }
        }

        private Solved solvedAt(int tick) {
            return solve(loadsAt(tick, offs()));
        }

        private boolean dark() {
            return stations.stream().noneMatch(station -> station.in);
        }

        // ---- the day

        private Low low() {
            Low low = null;
            for (int tick = 0; tick < 24; tick++) {
                Solved solved = solvedAt(tick);
                for (Load load : solved.loads()) {
                    Exact volts = voltsAt(solved.set(), solved.loads(), load.place());
                    if (low == null || volts.compareTo(low.volts()) < 0) {
                        low = new Low(volts, tick, load.train());
                    }
                }
            }
            return low;
        }

        private boolean daySafe() {
            if (dark()) {
                return false;
            }
            Low low = low();
            return low == null || low.volts().atLeast(rules[4]);
        }

        private Exact mostOf(int[] off) {
            Exact most = Exact.ZERO;
            for (int tick = 0; tick < 24; tick++) {
                Solved solved = solve(loadsAt(tick, off));
                for (int s = 0; s < stations.size(); s++) {
                    Exact gives = givenBy(solved.set(), solved.loads(), s);
                    if (gives.compareTo(most) > 0) {
                        most = gives;
                    }
                }
            }
            return most;
        }

        private boolean trips(int set, List<Load> loads) {
            for (int s = 0; s < stations.size(); s++) {
                if ((set >> s & 1) != 0 && givenBy(set, loads, s).atLeast(stations.get(s).tripsAt)) {
                    return true;
                }
            }
            return false;
        }

        // ---- the face

        int rule(int what, int v) {
            int[] least = {1, 1, 100, 100, 1};
            int[] greatest = {200, 20, 2000, 3000, 2000};
            if (what < 0 || what > 4) {
                return -1;
            }
            if (v < least[what] || v > greatest[what]) {
                return -2;
            }
            int[] then = rules.clone();
            then[what] = v;
            if (then[2] > then[3] || then[2] < then[4]) {
                return -3;
            }
            for (Station station : stations) {
                if (station.place > then[0]) {
                    return -3;
                }
            }
            for (Train train : trains) {
                for (Integer place : train.place) {
                    if (place != null && place > then[0]) {
                        return -3;
                    }
                }
            }
            int was = rules[what];
            rules[what] = v;
            return was;
        }

        int station(int kind, int place) {
            if (kind < 0 || kind > 2 || place < 0 || place > rules[0]) {
                return -2;
            }
            if (stations.stream().anyMatch(station -> station.place == place)) {
                return -3;
            }
            if (stations.size() == 5) {
                return -4;
            }
            Station station = new Station();
            station.kind = kind;
            station.place = place;
            stations.add(station);
            return stations.size() - 1;
        }

        private boolean noStation(int s) {
            return s < 0 || s >= stations.size();
        }

        private boolean noTrain(int n) {
            return n < 0 || n >= trains.size();
        }

        private boolean noTick(int tick) {
            return tick < 0 || tick > 23;
        }

        int set(int s, boolean is) {
            if (noStation(s)) {
                return -1;
            }
            boolean was = stations.get(s).in;
            stations.get(s).in = is;
            return was == is ? 0 : 1;
        }

        int trip(int s, int v) {
            if (noStation(s)) {
                return -1;
            }
            if (v < 0 || v > 100000) {
                return -2;
            }
            int was = stations.get(s).tripsAt;
            stations.get(s).tripsAt = v;
            return was;
        }

        int about(int s, int what) {
            if (noStation(s)) {
                return -1;
            }
            Station it = stations.get(s);
            return switch (what) {
                case 0 -> it.kind;
                case 1 -> it.place;
                case 2 -> it.in ? 1 : 0;
                case 3 -> it.tripsAt;
                default -> -2;
            };
        }

        int train() {
            if (trains.size() == 5) {
                return -4;
            }
            trains.add(new Train());
            return trains.size() - 1;
        }

        private boolean outside(int place, int amperes) {
            return place != -1 && (place < 0 || place > rules[0] || amperes < -400 || amperes > 400);
        }

        int run(int n, int tick, int place, int amperes) {
            if (noTrain(n) || noTick(tick)) {
                return -1;
            }
            if (outside(place, amperes)) {
                return -2;
            }
            trains.get(n).place[tick] = place == -1 ? null : place;
            trains.get(n).amperes[tick] = amperes;
            return 1;
        }

        private int failed(int which) {
            fault = which;
            return -10 - which;
        }

        int runs(int n, int k, int lane, int i, int many) {
            fault = 0;
            if (noTrain(n) || k < 0 || k > 3) {
                return -1;
            }
            if (lane < 0 || lane > 2) {
                return -2;
            }
            Sheet sheet = sheets[k];
            if (sheet != null && sheet.lane != lane) {
                return failed(2);
            }
            if (sheet == null) {
                return failed(1);
            }
            if (many < 0) {
                return failed(4);
            }
            if (i < 0 || i > sheet.cells.length || i + 2L * many > sheet.cells.length) {
                return failed(3);
            }
            if (many > 24) {
                return -2;
            }
            for (int t = 0; t < many; t++) {
                if (outside(sheet.cells[i + 2 * t], sheet.cells[i + 2 * t + 1])) {
                    return -2;
                }
            }
            trains.get(n).place = new Integer[24];
            int there = 0;
            for (int t = 0; t < many; t++) {
                run(n, t, sheet.cells[i + 2 * t], sheet.cells[i + 2 * t + 1]);
                there += trains.get(n).place[t] == null ? 0 : 1;
            }
            return there;
        }

        int putOff(int n, int k) {
            if (noTrain(n)) {
                return -1;
            }
            if (k < 0 || k > 5) {
                return -2;
            }
            int was = trains.get(n).off;
            trains.get(n).off = k;
            return was;
        }

        int at(int n, int tick, int what) {
            if (noTrain(n) || noTick(tick)) {
                return -1;
            }
            if (what < 0 || what > 2) {
                return -2;
            }
            if (what == 2 && dark()) {
                return -3;
            }
            for (Load load : what == 2 ? solvedAt(tick).loads() : loadsAt(tick, offs())) {
                if (load.train() == n) {
                    return what == 0 ? load.place() : load.amperes();
                }
            }
            return what == 0 ? -9 : 0;
        }

        int feeds(int tick) {
            if (noTick(tick)) {
                return -1;
            }
            return dark() ? -3 : solvedAt(tick).set();
        }

        private long half(Exact exact, int which) {
            return which == 0 ? exact.upper() : exact.lower();
        }

        long volts(int tick, int place, int which) {
            if (noTick(tick) || place < 0 || place > rules[0] || which < 0 || which > 1 || dark()) {
                return LOST;
            }
            Solved solved = solvedAt(tick);
            return half(voltsAt(solved.set(), solved.loads(), place), which);
        }

        long gives(int tick, int s, int which) {
            if (noTick(tick) || noStation(s) || which < 0 || which > 1 || dark()) {
                return LOST;
            }
            Solved solved = solvedAt(tick);
            return half(givenBy(solved.set(), solved.loads(), s), which);
        }

        long lowest(int what) {
            if (what < 0 || what > 3 || dark()) {
                return LOST;
            }
            Low low = low();
            if (low == null) {
                return LOST;
            }
            return what == 3 ? low.train() : what == 2 ? low.tick() : half(low.volts(), what);
        }

        int safe() {
            return dark() ? -3 : daySafe() ? 1 : 0;
        }

        int firstOut() {
            if (dark()) {
                return -3;
            }
            for (int s = 0; s < stations.size(); s++) {
                if (stations.get(s).in) {
                    stations.get(s).in = false;
                    boolean fine = daySafe();
                    stations.get(s).in = true;
                    if (!fine) {
                        return s;
                    }
                }
            }
            return -9;
        }

        long most(int which) {
            return which < 0 || which > 1 || dark() ? LOST : half(mostOf(offs()), which);
        }

        int shorted(int x, int f) {
            if (x < 0 || x > rules[0]) {
                return -1;
            }
            if (f < 1 || f > 100000) {
                return -2;
            }
            return dark() ? -3 : firstSet(List.of(new Load(0, x, f)));
        }

        int right(int f) {
            if (f < 1 || f > 100000) {
                return -2;
            }
            if (dark()) {
                return -3;
            }
            for (int tick = 0; tick < 24; tick++) {
                Solved solved = solvedAt(tick);
                if (trips(solved.set(), solved.loads())) {
                    return 1;
                }
            }
            for (int x = 0; x <= rules[0]; x++) {
                List<Load> loads = List.of(new Load(0, x, f));
                if (!trips(firstSet(loads), loads)) {
                    return 2;
                }
            }
            return 0;
        }

        /** Upper number, lower number, then by how much each TRAIN is put off. */
        long[] peaks(int k) {
            if (k < 1 || k > 2 || dark()) {
                return null;
            }
            int[] off = new int[trains.size()];
            Exact least = null;
            long[] row = new long[2 + off.length];
            while (true) {
                Exact most = mostOf(off);
                if (least == null || most.compareTo(least) < 0) {
                    least = most;
                    row[0] = most.upper();
                    row[1] = most.lower();
                    for (int n = 0; n < off.length; n++) {
                        row[2 + n] = off[n];
                    }
                }
                int n = off.length - 1;
                while (n >= 0 && off[n] == k) {
                    off[n--] = 0;
                }
                if (n < 0) {
                    return row;
                }
                off[n]++;
            }
        }

        long peak(int k, int what, long[] row) {
            if (row == null || what < 0 || what > 1 && what < 10 || what >= 10 && noTrain(what - 10)) {
                return LOST;
            }
            return what < 2 ? row[what] : row[what - 8];
        }

        long used(int n) {
            if (noTrain(n) || dark()) {
                return LOST;
            }
            long sum = 0;
            for (int tick = 0; tick < 24; tick++) {
                Solved solved = solvedAt(tick);
                for (Load load : solved.loads()) {
                    if (load.train() == n) {
                        sum += voltsAt(solved.set(), solved.loads(), load.place()).times(load.amperes()).cut();
                    }
                }
            }
            return sum;
        }

        long given(int s) {
            if (noStation(s) || dark()) {
                return LOST;
            }
            long sum = 0;
            for (int tick = 0; tick < 24; tick++) {
                Solved solved = solvedAt(tick);
                sum += givenBy(solved.set(), solved.loads(), s).times(rules[2]).cut();
            }
            return sum;
        }

        int bestPlace(Low[] found) {
            int place = -1;
            if (stations.size() == 5) {
                return place;
            }
            for (int x = 0; x <= rules[0]; x++) {
                if (station(0, x) >= 0) {
                    Low low = low();
                    if (low != null && (found[0] == null || low.volts().compareTo(found[0].volts()) > 0)) {
                        found[0] = low;
                        place = x;
                    }
                    stations.remove(stations.size() - 1);
                }
            }
            return place;
        }

        long best(int what, int place, Low found) {
            if (what < 0 || what > 2 || place < 0) {
                return LOST;
            }
            return what == 0 ? place : half(found.volts(), what - 1);
        }

        int sheet(int k, int lane, int n) {
            fault = 0;
            if (k < 0 || k > 3) {
                return -1;
            }
            if (lane < 0 || lane > 2 || n > 60) {
                return -2;
            }
            if (n < 0) {
                return failed(4);
            }
            sheets[k] = new Sheet();
            sheets[k].lane = lane;
            sheets[k].cells = new int[n];
            return 1;
        }

        int lose(int k) {
            if (k < 0 || k > 3) {
                return -1;
            }
            int had = sheets[k] == null ? 0 : 1;
            sheets[k] = null;
            return had;
        }

        int put(int k, int i, int v) {
            fault = 0;
            if (k < 0 || k > 3) {
                return -1;
            }
            if (sheets[k] == null) {
                return failed(1);
            }
            if (i < 0 || i >= sheets[k].cells.length) {
                return failed(3);
            }
            sheets[k].cells[i] = sheets[k].lane == 0 ? (byte) v : sheets[k].lane == 1 ? (short) v : v;
            return 1;
        }

        long cell(int k, int i, int lane) {
            fault = 0;
            if (k < 0 || k > 3 || lane < 0 || lane > 2) {
                return LOST;
            }
            if (sheets[k] != null && sheets[k].lane != lane) {
                failed(2);
            } else if (sheets[k] == null) {
                failed(1);
            } else if (i < 0 || i >= sheets[k].cells.length) {
                failed(3);
            }
            return fault != 0 ? LOST : sheets[k].cells[i];
        }

        private void leave(int body) {
            trace = 31 * trace + body;
        }

        int tell(int s) {
            if (noStation(s)) {
                return -1;
            }
            Station it = stations.get(s);
            int house = it.place + (it.in ? 1000 : 0);
            int[][] bodies = {{1}, {2, 1}, {3, 2, 1, 1}};
            for (int body : bodies[it.kind]) {
                leave(body);
            }
            return it.kind == 0 ? it.place : it.kind == 1 ? house : house + it.place;
        }

        int call(int s) {
            if (noStation(s)) {
                return -1;
            }
            leave(stations.get(s).kind == 2 ? 5 : 4);
            return stations.get(s).kind == 2 ? 50 : s;
        }

        int as(int s, int kind) {
            fault = 0;
            if (noStation(s)) {
                return -1;
            }
            if (kind < 0 || kind > 2) {
                return -2;
            }
            return kind > stations.get(s).kind ? failed(2) : 1;
        }

        int many(int what) {
            int busy = 0;
            for (int tick = 0; tick < 24; tick++) {
                busy += loadsAt(tick, offs()).isEmpty() ? 0 : 1;
            }
            return switch (what) {
                case 0 -> stations.size();
                case 1 -> (int) stations.stream().filter(station -> station.in).count();
                case 2 -> trains.size();
                case 3 -> busy;
                default -> -2;
            };
        }
    }
}
