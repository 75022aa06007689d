/** Each promise of the document by itself: ordinary calls, edges, refusals and FAULTS. */
public final class RailPowerPromises {
    private static final long LOST = Long.MIN_VALUE;
    private static final int MIN = Integer.MIN_VALUE;
    private static final int MAX = Integer.MAX_VALUE;

    private static int wrong = 0;
    private static int promise = 0;
    private static RailPower x;

    public static void main(String[] args) {
        newObject();
        rule();
        ruleState();
        station();
        set();
        trip();
        about();
        train();
        run();
        runs();
        runsFaults();
        putOff();
        at();
        feeds();
        feedsFirstSet();
        volts();
        takenBack();
        allTakenBack();
        gives();
        lowest();
        safe();
        firstOut();
        most();
        shorted();
        right();
        rightOfIdleSwitch();
        peak();
        peakAfterChanges();
        used();
        given();
        best();
        bestRefusals();
        sheet();
        lose();
        put();
        cell();
        tell();
        call();
        as();
        trace();
        fault();
        many();
        System.out.println(wrong == 0 ? "all promises hold" : wrong + " answers are not as due");
        if (wrong != 0) {
            System.exit(1);
        }
    }

    private static void begin(int number) {
        promise = number;
        x = new RailPower();
    }

    private static void due(String call, long got, long want) {
        if (got != want) {
            wrong++;
            System.out.println("promise " + promise + ": " + call + " answered " + got + ", due is " + want);
        }
    }

    private static void share(String call, long upper, long lower, long wantUpper, long wantLower) {
        due(call + " upper", upper, wantUpper);
        due(call + " lower", lower, wantLower);
    }

    /** A line of 0 .. 100 with R 10 and STATIONS of all kinds at 20, 60 and 80. */
    private static void threeStations() {
        x.rule(1, 10);
        x.station(0, 20);
        x.station(1, 60);
        x.station(2, 80);
    }

    private static void newObject() {
        begin(1);
        for (int what = 0; what < 4; what++) {
            due("many(" + what + ")", x.many(what), 0);
        }
        due("about(0, 0)", x.about(0, 0), -1);
        due("at(0, 0, 0)", x.at(0, 0, 0), -1);
        due("put(0, 0, 1)", x.put(0, 0, 1), -11);
        due("lose(3)", x.lose(3), 0);
        due("trace()", x.trace(), 0);
        RailPower other = new RailPower();
        other.station(0, 1);
        other.train();
        due("many(0) of another", x.many(0), 0);
        due("many(2) of another", x.many(2), 0);
        due("UNKNOWN", RailPower.UNKNOWN, -1);
        due("OUTSIDE", RailPower.OUTSIDE, -2);
        due("STATE", RailPower.STATE, -3);
        due("FULL", RailPower.FULL, -4);
        due("NONE", RailPower.NONE, -9);
        due("LOST", RailPower.LOST, LOST);
    }

    private static void rule() {
        int[] first = {100, 1, 750, 900, 500};
        int[] least = {1, 1, 100, 100, 1};
        int[] greatest = {200, 20, 2000, 3000, 2000};
        for (int what = 0; what < 5; what++) {
            begin(2);
            due("rule(" + what + ", below)", x.rule(what, least[what] - 1), -2);
            due("rule(" + what + ", above)", x.rule(what, greatest[what] + 1), -2);
            due("rule(" + what + ", MIN)", x.rule(what, MIN), -2);
            due("rule(" + what + ", MAX)", x.rule(what, MAX), -2);
            due("rule(" + what + ", first)", x.rule(what, first[what]), first[what]);
        }
        begin(2);
        due("rule(-1, 1)", x.rule(-1, 1), -1);
        due("rule(5, 0)", x.rule(5, 0), -1);
        due("rule(0, 1)", x.rule(0, 1), 100);
        due("rule(0, 200)", x.rule(0, 200), 1);
        due("rule(1, 20)", x.rule(1, 20), 1);
        due("rule(1, 1)", x.rule(1, 1), 20);
        due("rule(3, 3000)", x.rule(3, 3000), 900);
        due("rule(2, 2000)", x.rule(2, 2000), 750);
        due("rule(4, 2000)", x.rule(4, 2000), 500);
        due("rule(4, 1)", x.rule(4, 1), 2000);
        due("rule(2, 100)", x.rule(2, 100), 2000);
        due("rule(3, 100)", x.rule(3, 100), 3000);
    }

    private static void ruleState() {
        begin(2);
        due("V above TOP", x.rule(2, 901), -3);
        due("V as TOP", x.rule(2, 900), 750);
        due("V below LOW", x.rule(2, 499), -3);
        due("V as LOW", x.rule(2, 500), 900);
        due("TOP below V", x.rule(3, 499), -3);
        due("TOP as V", x.rule(3, 500), 900);
        due("LOW above V", x.rule(4, 501), -3);
        due("LOW as V", x.rule(4, 500), 500);
        x.station(0, 40);
        due("a STATION beyond", x.rule(0, 39), -3);
        due("a STATION at the end", x.rule(0, 40), 100);
        x.rule(0, 100);
        x.set(0, false);
        due("a STATION beyond, OUT", x.rule(0, 39), -3);
        x.train();
        x.run(0, 23, 60, 1);
        due("a TRAIN beyond", x.rule(0, 59), -3);
        x.putOff(0, 5);
        due("a TRAIN beyond, PUT OFF", x.rule(0, 59), -3);
        due("a TRAIN at the end", x.rule(0, 60), 100);
        x.run(0, 23, -1, 0);
        x.run(0, 0, 41, 1);
        due("a TRAIN beyond at TICK 0", x.rule(0, 40), -3);
        x.run(0, 0, -1, 0);
        due("a TRAIN away", x.rule(0, 40), 60);
    }

    private static void station() {
        begin(3);
        due("station(-1, 5)", x.station(-1, 5), -2);
        due("station(3, 5)", x.station(3, 5), -2);
        due("station(0, -1)", x.station(0, -1), -2);
        due("station(0, 101)", x.station(0, 101), -2);
        due("station(0, 0)", x.station(0, 0), 0);
        due("station(2, 100)", x.station(2, 100), 1);
        due("station(1, 100)", x.station(1, 100), -3);
        due("station(1, 50)", x.station(1, 50), 2);
        x.set(2, false);
        due("station(1, 50) of one OUT", x.station(1, 50), -3);
        due("station(1, 51)", x.station(1, 51), 3);
        due("station(1, 52)", x.station(1, 52), 4);
        due("STATE comes ahead of FULL", x.station(1, 52), -3);
        due("OUTSIDE comes ahead of FULL", x.station(9, 53), -2);
        due("station(1, 53)", x.station(1, 53), -4);
        due("many(0)", x.many(0), 5);
    }

    private static void set() {
        begin(4);
        due("set(0, true)", x.set(0, true), -1);
        x.station(0, 5);
        due("set(0, true)", x.set(0, true), 0);
        due("set(0, false)", x.set(0, false), 1);
        due("about(0, 2)", x.about(0, 2), 0);
        due("set(0, false)", x.set(0, false), 0);
        due("set(0, true)", x.set(0, true), 1);
        due("about(0, 2)", x.about(0, 2), 1);
        due("set(-1, true)", x.set(-1, true), -1);
        due("set(1, true)", x.set(1, true), -1);
    }

    private static void trip() {
        begin(5);
        due("trip(0, 5)", x.trip(0, 5), -1);
        x.station(0, 5);
        due("trip(0, -1)", x.trip(0, -1), -2);
        due("trip(0, 100001)", x.trip(0, 100001), -2);
        due("trip(0, 0)", x.trip(0, 0), 3000);
        due("trip(0, 100000)", x.trip(0, 100000), 0);
        due("about(0, 3)", x.about(0, 3), 100000);
        due("UNKNOWN comes ahead of OUTSIDE", x.trip(1, -1), -1);
        due("trip(-1, 0)", x.trip(-1, 0), -1);
    }

    private static void about() {
        begin(6);
        x.station(2, 33);
        x.station(1, 7);
        int[][] want = {{2, 33, 1, 3000}, {1, 7, 1, 3000}};
        for (int s = 0; s < 2; s++) {
            for (int what = 0; what < 4; what++) {
                due("about(" + s + ", " + what + ")", x.about(s, what), want[s][what]);
            }
        }
        due("about(0, -1)", x.about(0, -1), -2);
        due("about(0, 4)", x.about(0, 4), -2);
        due("about(2, 4)", x.about(2, 4), -1);
        due("about(-1, 0)", x.about(-1, 0), -1);
    }

    private static void train() {
        begin(7);
        for (int n = 0; n < 5; n++) {
            due("train()", x.train(), n);
            for (int tick = 0; tick < 24; tick++) {
                due("at(" + n + ", " + tick + ", 0)", x.at(n, tick, 0), -9);
            }
        }
        due("train()", x.train(), -4);
        due("many(2)", x.many(2), 5);
    }

    private static void run() {
        begin(8);
        x.train();
        due("run(1, 0, 0, 0)", x.run(1, 0, 0, 0), -1);
        due("run(-1, 0, 0, 0)", x.run(-1, 0, 0, 0), -1);
        due("run(0, -1, 0, 0)", x.run(0, -1, 0, 0), -1);
        due("UNKNOWN comes ahead of OUTSIDE", x.run(0, 24, 101, 0), -1);
        due("run(0, 0, 101, 0)", x.run(0, 0, 101, 0), -2);
        due("run(0, 0, -2, 0)", x.run(0, 0, -2, 0), -2);
        due("run(0, 0, 0, 401)", x.run(0, 0, 0, 401), -2);
        due("run(0, 0, 0, -401)", x.run(0, 0, 0, -401), -2);
        due("many(3)", x.many(3), 0);
        due("run(0, 0, 0, 400)", x.run(0, 0, 0, 400), 1);
        due("run(0, 23, 100, -400)", x.run(0, 23, 100, -400), 1);
        due("at(0, 0, 1)", x.at(0, 0, 1), 400);
        due("at(0, 23, 0)", x.at(0, 23, 0), 100);
        due("at(0, 23, 1)", x.at(0, 23, 1), -400);
        due("run(0, 23, -1, MAX)", x.run(0, 23, -1, MAX), 1);
        due("at(0, 23, 0)", x.at(0, 23, 0), -9);
        due("at(0, 23, 1)", x.at(0, 23, 1), 0);
        due("many(3)", x.many(3), 1);
    }

    private static void fill(int sheet, int... cells) {
        for (int i = 0; i < cells.length; i++) {
            x.put(sheet, i, cells[i]);
        }
    }

    private static void runs() {
        begin(9);
        x.train();
        x.run(0, 5, 50, 50);
        x.sheet(0, 1, 7);
        fill(0, 77, 10, 400, -1, 999, 100, -400);
        due("runs(0, 0, 1, 1, 3)", x.runs(0, 0, 1, 1, 3), 2);
        int[] places = {10, -9, 100, -9, -9, -9};
        int[] amperes = {400, 0, -400, 0, 0, 0};
        for (int t = 0; t < 6; t++) {
            due("at(0, " + t + ", 0)", x.at(0, t, 0), places[t]);
            due("at(0, " + t + ", 1)", x.at(0, t, 1), amperes[t]);
        }
        due("a place beyond", x.runs(0, 0, 1, 2, 2), -2);
        due("nothing was changed", x.many(3), 2);
        x.rule(0, 200);
        due("AMPERES beyond", x.runs(0, 0, 1, 3, 2), 1);
        fill(0, 5, 401);
        due("AMPERES beyond", x.runs(0, 0, 1, 0, 1), -2);
        fill(0, 5, -401);
        due("AMPERES beyond", x.runs(0, 0, 1, 0, 1), -2);
        fill(0, -2, 0);
        due("a place beyond", x.runs(0, 0, 1, 0, 1), -2);
        fill(0, 201, 0);
        due("a place beyond", x.runs(0, 0, 1, 0, 1), -2);
        due("nothing was changed", x.at(0, 1, 0), 100);
        due("of none", x.runs(0, 0, 1, 7, 0), 0);
        due("away at all", x.many(3), 0);
        x.sheet(1, 0, 50);
        due("24 TICKS", x.runs(0, 1, 0, 2, 24), 24);
        due("25 TICKS", x.runs(0, 1, 0, 0, 25), -2);
        due("at(0, 23, 0)", x.at(0, 23, 0), 0);
    }

    private static void runsFaults() {
        begin(9);
        x.train();
        x.sheet(0, 1, 6);
        due("no TRAIN", x.runs(1, 0, 1, 0, 1), -1);
        due("no SHEET", x.runs(0, 4, 1, 0, 1), -1);
        due("no SHEET", x.runs(0, -1, 9, 0, 1), -1);
        due("no LANE", x.runs(0, 0, 3, 0, -1), -2);
        due("no LANE", x.runs(0, 3, -1, 0, 1), -2);
        due("fault()", x.fault(), 0);
        due("CAST comes ahead of SIZE", x.runs(0, 0, 0, 0, -1), -12);
        due("fault()", x.fault(), 2);
        due("NULL comes ahead of SIZE", x.runs(0, 3, 0, 0, -1), -11);
        due("fault()", x.fault(), 1);
        due("SIZE comes ahead of INDEX", x.runs(0, 0, 1, -1, -1), -14);
        due("fault()", x.fault(), 4);
        int[][] beyond = {{-1, 0}, {-1, 1}, {7, 0}, {5, 1}, {0, 4}, {MAX, 0}, {MIN, 1}, {0, MAX}, {2, MAX}, {6, 1}};
        for (int[] cells : beyond) {
            due("INDEX " + cells[0] + ", " + cells[1], x.runs(0, 0, 1, cells[0], cells[1]), -13);
            due("fault()", x.fault(), 3);
        }
        due("INDEX comes ahead of OUTSIDE", x.runs(0, 0, 1, 0, 25), -13);
        due("all cells", x.runs(0, 0, 1, 0, 3), 3);
        due("fault()", x.fault(), 0);
    }

    private static void putOff() {
        begin(10);
        x.train();
        x.run(0, 0, 1, 10);
        x.run(0, 18, 2, 20);
        x.run(0, 19, 3, 30);
        due("putOff(1, 0)", x.putOff(1, 0), -1);
        due("putOff(-1, 9)", x.putOff(-1, 9), -1);
        due("putOff(0, -1)", x.putOff(0, -1), -2);
        due("putOff(0, 6)", x.putOff(0, 6), -2);
        due("putOff(0, 5)", x.putOff(0, 5), 0);
        due("at(0, 0, 0)", x.at(0, 0, 0), -9);
        due("at(0, 5, 0)", x.at(0, 5, 0), 1);
        due("at(0, 23, 1)", x.at(0, 23, 1), 20);
        due("many(3)", x.many(3), 2);
        due("putOff(0, 1)", x.putOff(0, 1), 5);
        due("at(0, 20, 0)", x.at(0, 20, 0), 3);
        due("at(0, 1, 0)", x.at(0, 1, 0), 1);
        due("many(3)", x.many(3), 3);
    }

    private static void at() {
        begin(11);
        x.train();
        x.run(0, 2, 40, -100);
        due("at(1, 0, 0)", x.at(1, 0, 0), -1);
        due("at(0, 24, 0)", x.at(0, 24, 0), -1);
        due("at(0, -1, 5)", x.at(0, -1, 5), -1);
        due("at(0, 2, 3)", x.at(0, 2, 3), -2);
        due("at(0, 2, -1)", x.at(0, 2, -1), -2);
        due("at(0, 2, 0), DARK", x.at(0, 2, 0), 40);
        due("at(0, 2, 1), DARK", x.at(0, 2, 1), -100);
        due("at(0, 2, 2), DARK", x.at(0, 2, 2), -3);
        due("at(0, 3, 2), DARK and away", x.at(0, 3, 2), -3);
        x.station(0, 10);
        due("nothing pulls", x.at(0, 2, 2), 0);
        due("at(0, 3, 2)", x.at(0, 3, 2), 0);
        x.train();
        x.run(1, 2, 10, 30);
        due("what is left is pulled", x.at(0, 2, 2), -25);
        due("at(1, 2, 2)", x.at(1, 2, 2), 30);
        x.putOff(0, 1);
        due("at(0, 3, 1)", x.at(0, 3, 1), -100);
        due("at(0, 2, 1)", x.at(0, 2, 1), 0);
    }

    private static void feeds() {
        begin(12);
        due("feeds(24)", x.feeds(24), -1);
        due("feeds(-1)", x.feeds(-1), -1);
        due("feeds(0)", x.feeds(0), -3);
        threeStations();
        x.train();
        x.train();
        x.run(0, 0, 50, 100);
        x.run(0, 1, 0, 100);
        x.run(0, 2, 70, 100);
        x.run(1, 2, 90, -40);
        x.run(0, 3, 40, 100);
        x.run(1, 3, 70, -30);
        due("between 20 and 60", x.feeds(0), 3);
        due("beyond 20", x.feeds(1), 1);
        // 80 has 50 to give and gets 40 back.
        due("some given back", x.feeds(2), 6);
        // 60 gives 50 less 15; 80 would get 15, so it is left out and 60 gets all 30.
        due("one would take", x.feeds(3), 3);
        x.set(1, false);
        due("without 1", x.feeds(0), 5);
        x.set(0, false);
        x.set(2, false);
        due("DARK", x.feeds(0), -3);
    }

    private static void feedsFirstSet() {
        begin(12);
        x.station(0, 90);
        x.station(0, 10);
        x.station(0, 50);
        due("without LOADS", x.feeds(0), 1);
        x.set(0, false);
        due("without LOADS and 0", x.feeds(0), 2);
        x.set(0, true);
        x.train();
        x.train();
        x.run(0, 0, 50, 100);
        due("those that give nothing are left out", x.feeds(0), 4);
        x.run(0, 1, 50, 0);
        due("a TRAIN without AMPERES", x.feeds(1), 1);
        x.run(0, 2, 80, -60);
        x.run(1, 2, 20, 60);
        // What is given back at 80 goes to 20: only the STATION at 10 has no more than V.
        due("as much given back as pulled", x.feeds(2), 2);
    }

    private static void volts() {
        begin(13);
        due("DARK", x.volts(0, 0, 0), LOST);
        threeStations();
        x.train();
        x.train();
        x.run(0, 0, 50, 100);
        x.run(1, 0, 30, 40);
        x.run(0, 1, 95, 70);
        x.run(1, 1, 90, 30);
        x.run(0, 2, 5, 1);
        due("volts(24, 0, 0)", x.volts(24, 0, 0), LOST);
        due("volts(-1, 0, 0)", x.volts(-1, 0, 0), LOST);
        due("volts(0, 101, 0)", x.volts(0, 101, 0), LOST);
        due("volts(0, -1, 0)", x.volts(0, -1, 0), LOST);
        due("volts(0, 0, 2)", x.volts(0, 0, 2), LOST);
        due("volts(0, 0, -1)", x.volts(0, 0, -1), LOST);
        // 750 less 10 thousandths of (100 * 20 * 10 + 40 * 10 * 20) / 40, and the like.
        share("at 40", x.volts(0, 40, 0), x.volts(0, 40, 1), 743, 1);
        share("at 50", x.volts(0, 50, 0), x.volts(0, 50, 1), 1483, 2);
        share("at 33", x.volts(0, 33, 0), x.volts(0, 33, 1), 14881, 20);
        share("at 20", x.volts(0, 20, 0), x.volts(0, 20, 1), 750, 1);
        share("at 0", x.volts(0, 0, 0), x.volts(0, 0, 1), 750, 1);
        share("at 70", x.volts(0, 70, 0), x.volts(0, 70, 1), 750, 1);
        share("beyond, at 90", x.volts(1, 90, 0), x.volts(1, 90, 1), 740, 1);
        share("beyond, at 93", x.volts(1, 93, 0), x.volts(1, 93, 1), 7379, 10);
        share("beyond, at 100", x.volts(1, 100, 0), x.volts(1, 100, 1), 1473, 2);
        share("beyond, at 0", x.volts(2, 0, 0), x.volts(2, 0, 1), 14997, 20);
    }

    private static void takenBack() {
        begin(13);
        x.rule(1, 10);
        x.station(0, 0);
        x.train();
        x.train();
        x.train();
        x.run(0, 0, 0, 400);
        x.run(1, 0, 50, -400);
        x.run(2, 0, 50, -400);
        // None FEEDS: of like ones the first becomes -200, then the other, which gives back most;
        // then there are 950 V: of like ones the first becomes -100.
        due("at(1, 0, 2)", x.at(1, 0, 2), -100);
        due("at(2, 0, 2)", x.at(2, 0, 2), -200);
        share("as high as TOP", x.volts(0, 50, 0), x.volts(0, 50, 1), 900, 1);
        x.rule(3, 899);
        due("at(1, 0, 2)", x.at(1, 0, 2), -50);
        due("at(2, 0, 2)", x.at(2, 0, 2), -200);
        x.run(0, 1, 0, 400);
        x.run(1, 1, 10, -399);
        x.run(2, 1, 100, -1);
        // There are 790 at 10 and 790.9 at 100, where -1 becomes 0; then 789.9 at both.
        x.rule(3, 790);
        due("the highest is taken first", x.at(2, 1, 2), 0);
        due("then the other", x.at(1, 1, 2), -399);
        x.rule(3, 780);
        due("half is cut", x.at(1, 1, 2), -199);
        due("at(0, 1, 2)", x.at(0, 1, 2), 400);
        due("as told", x.at(1, 1, 1), -399);
    }

    private static void allTakenBack() {
        begin(13);
        x.station(0, 0);
        x.station(0, 100);
        for (int n = 0; n < 5; n++) {
            x.train();
            x.run(n, 0, 20 * n + 10, -400);
        }
        x.run(0, 1, 100, 10);
        due("feeds(1)", x.feeds(1), 2);
        due("feeds(0)", x.feeds(0), 1);
        share("V", x.volts(0, 50, 0), x.volts(0, 50, 1), 750, 1);
        for (int n = 0; n < 5; n++) {
            due("at(" + n + ", 0, 2)", x.at(n, 0, 2), 0);
        }
    }

    private static void gives() {
        begin(14);
        due("DARK", x.gives(0, 0, 0), LOST);
        threeStations();
        due("gives(0, 3, 0)", x.gives(0, 3, 0), LOST);
        due("gives(24, 0, 0)", x.gives(24, 0, 0), LOST);
        due("gives(0, 0, 2)", x.gives(0, 0, 2), LOST);
        due("gives(0, 0, -1)", x.gives(0, 0, -1), LOST);
        x.train();
        x.train();
        x.run(0, 0, 23, 100);
        x.run(1, 0, 73, 30);
        share("0", x.gives(0, 0, 0), x.gives(0, 0, 1), 185, 2);
        share("1", x.gives(0, 1, 0), x.gives(0, 1, 1), 18, 1);
        share("2", x.gives(0, 2, 0), x.gives(0, 2, 1), 39, 2);
        x.run(0, 1, 60, 100);
        x.run(1, 1, 100, 30);
        share("0 does not FEED", x.gives(1, 0, 0), x.gives(1, 0, 1), 0, 1);
        share("a LOAD at it", x.gives(1, 1, 0), x.gives(1, 1, 1), 100, 1);
        share("a LOAD beyond it", x.gives(1, 2, 0), x.gives(1, 2, 1), 30, 1);
        x.set(2, false);
        share("OUT", x.gives(1, 2, 0), x.gives(1, 2, 1), 0, 1);
        share("1 is the last", x.gives(1, 1, 0), x.gives(1, 1, 1), 130, 1);
    }

    private static void lowest() {
        begin(15);
        due("DARK", x.lowest(0), LOST);
        x.station(0, 0);
        due("no TRAIN", x.lowest(0), LOST);
        x.train();
        x.train();
        due("no TRAIN there", x.lowest(2), LOST);
        x.run(1, 4, 0, 0);
        share("LOWEST", x.lowest(0), x.lowest(1), 750, 1);
        due("TICK", x.lowest(2), 4);
        due("TRAIN", x.lowest(3), 1);
        x.run(0, 9, 50, 31);
        x.run(1, 9, 50, 0);
        x.run(1, 11, 50, 31);
        share("LOWEST", x.lowest(0), x.lowest(1), 14969, 20);
        due("the first TICK", x.lowest(2), 9);
        due("the first TRAIN", x.lowest(3), 0);
        x.putOff(0, 3);
        due("TICK", x.lowest(2), 11);
        due("TRAIN", x.lowest(3), 1);
        due("lowest(-1)", x.lowest(-1), LOST);
        due("lowest(4)", x.lowest(4), LOST);
        x.set(0, false);
        due("DARK", x.lowest(0), LOST);
    }

    private static void safe() {
        begin(16);
        due("DARK", x.safe(), -3);
        x.station(0, 0);
        due("no TRAIN", x.safe(), 1);
        x.rule(1, 20);
        x.train();
        x.run(0, 7, 100, 125);
        due("as LOW", x.safe(), 1);
        x.run(0, 7, 100, 126);
        due("below LOW", x.safe(), 0);
        x.rule(4, 498);
        due("as LOW", x.safe(), 1);
        x.rule(4, 499);
        due("below LOW", x.safe(), 0);
        x.run(0, 7, 100, -400);
        due("nothing pulled", x.safe(), 1);
    }

    private static void firstOut() {
        begin(17);
        due("DARK", x.firstOut(), -3);
        x.station(0, 0);
        due("the only one", x.firstOut(), 0);
        x.station(0, 100);
        due("without TRAINS", x.firstOut(), -9);
        x.rule(1, 20);
        x.train();
        x.run(0, 0, 20, 150);
        due("20 from 0, 80 from 100", x.firstOut(), -9);
        x.run(0, 0, 10, 150);
        due("90 from 100", x.firstOut(), 0);
        due("it is IN as it was", x.about(0, 2), 1);
        x.run(0, 0, 90, 150);
        due("90 from 0", x.firstOut(), 1);
        x.station(0, 80);
        due("a third", x.firstOut(), -9);
        x.set(0, false);
        x.set(2, false);
        due("the only one IN", x.firstOut(), 1);
        x.set(1, false);
        due("DARK", x.firstOut(), -3);
    }

    private static void most() {
        begin(18);
        due("DARK", x.most(0), LOST);
        threeStations();
        share("no TRAIN", x.most(0), x.most(1), 0, 1);
        x.train();
        x.train();
        x.run(0, 3, 23, 100);
        x.run(1, 5, 73, 41);
        share("one has most", x.most(0), x.most(1), 185, 2);
        x.run(1, 3, 23, 1);
        share("TRAINS together", x.most(0), x.most(1), 3737, 40);
        x.putOff(0, 2);
        share("apart", x.most(0), x.most(1), 185, 2);
        due("most(-1)", x.most(-1), LOST);
        due("most(2)", x.most(2), LOST);
    }

    private static void shorted() {
        begin(19);
        due("shorted(101, 0)", x.shorted(101, 0), -1);
        due("shorted(-1, 5)", x.shorted(-1, 5), -1);
        due("shorted(0, 0)", x.shorted(0, 0), -2);
        due("shorted(0, 100001)", x.shorted(0, 100001), -2);
        due("shorted(0, 1)", x.shorted(0, 1), -3);
        threeStations();
        x.train();
        x.run(0, 0, 90, 400);
        due("beyond 20", x.shorted(0, 100000), 1);
        due("at 20", x.shorted(20, 1), 1);
        due("between 20 and 60", x.shorted(21, 1), 3);
        due("at 60", x.shorted(60, 100000), 2);
        due("between 60 and 80", x.shorted(79, 5), 6);
        due("beyond 80", x.shorted(100, 5), 4);
        x.set(1, false);
        due("between 20 and 80", x.shorted(60, 5), 5);
    }

    private static void right() {
        begin(20);
        due("right(0)", x.right(0), -2);
        due("right(100001)", x.right(100001), -2);
        due("right(1)", x.right(1), -3);
        x.station(0, 0);
        x.station(0, 100);
        x.train();
        x.run(0, 3, 50, 400);
        // At 50 each gives half of a FAULT.
        due("as the SWITCH", x.right(6000), 0);
        due("below the SWITCH", x.right(5999), 2);
        x.trip(0, 201);
        due("one SWITCH is enough up to the middle", x.right(5900), 0);
        x.trip(1, 200);
        due("a TRAIN as the SWITCH", x.right(6000), 1);
        due("a TRAIN comes ahead of a FAULT", x.right(1), 1);
        x.trip(1, 201);
        due("above the TRAIN", x.right(402), 0);
        due("above the TRAIN", x.right(401), 2);
        x.set(0, false);
        due("one has all", x.right(402), 1);
        x.trip(1, 401);
        due("one has all", x.right(401), 0);
        due("one has all", x.right(400), 2);
        x.rule(0, 200);
        due("beyond it, too", x.right(401), 0);
        x.run(0, 23, 50, 400);
        x.trip(1, 400);
        x.run(0, 3, -1, 0);
        due("at the last TICK", x.right(401), 1);
        x.putOff(0, 1);
        due("left out beyond it", x.right(401), 0);
    }

    // Only a STATION that FEEDS can trip; of those that give nothing just the first FEEDS.
    private static void rightOfIdleSwitch() {
        begin(20);
        x.station(0, 0);
        x.station(0, 100);
        x.trip(1, 0);
        due("it does not FEED", x.right(6000), 0);
        due("a FAULT at 0 is not PARTED", x.right(2999), 2);
        x.trip(0, 0);
        due("it FEEDS with nothing to give", x.right(6000), 1);
    }

    private static void peak() {
        begin(21);
        due("DARK", x.peak(1, 0), LOST);
        x.station(0, 0);
        share("no TRAIN", x.peak(1, 0), x.peak(1, 1), 0, 1);
        due("no TRAIN", x.peak(1, 10), LOST);
        x.train();
        x.train();
        x.train();
        x.run(0, 0, 10, 300);
        x.run(1, 0, 10, 200);
        x.run(2, 0, 10, 100);
        share("1", x.peak(1, 0), x.peak(1, 1), 300, 1);
        long[] byOne = {0, 1, 1};
        long[] byTwo = {0, 1, 1};
        for (int n = 0; n < 3; n++) {
            due("peak(1, 10 + " + n + ")", x.peak(1, 10 + n), byOne[n]);
            due("peak(2, 10 + " + n + ")", x.peak(2, 10 + n), byTwo[n]);
        }
        x.run(2, 0, 10, 200);
        share("1, new AMPERES", x.peak(1, 0), x.peak(1, 1), 400, 1);
        share("2, new AMPERES", x.peak(2, 0), x.peak(2, 1), 300, 1);
        due("peak(2, 11)", x.peak(2, 11), 1);
        due("peak(2, 12)", x.peak(2, 12), 2);
        x.putOff(0, 5);
        share("in place of as they are", x.peak(1, 0), x.peak(1, 1), 400, 1);
        due("putOff(0, 0)", x.putOff(0, 0), 5);
        x.run(0, 0, -1, 0);
        x.run(0, 23, 10, 250);
        share("put off beyond 23", x.peak(1, 0), x.peak(1, 1), 200, 1);
        due("peak(1, 10)", x.peak(1, 10), 1);
        due("peak(1, 11)", x.peak(1, 11), 0);
        due("peak(1, 12)", x.peak(1, 12), 1);
        due("peak(0, 0)", x.peak(0, 0), LOST);
        due("peak(3, 0)", x.peak(3, 0), LOST);
        due("peak(1, -1)", x.peak(1, -1), LOST);
        due("peak(1, 2)", x.peak(1, 2), LOST);
        due("peak(1, 9)", x.peak(1, 9), LOST);
        due("peak(1, 13)", x.peak(1, 13), LOST);
        due("peak(1, MIN)", x.peak(1, MIN), LOST);
        due("peak(1, MAX)", x.peak(1, MAX), LOST);
    }

    // What peak and best answered before is no longer so.
    private static void peakAfterChanges() {
        begin(21);
        x.station(0, 0);
        x.rule(1, 10);
        x.train();
        x.train();
        x.run(0, 0, 0, 400);
        x.run(1, 0, 100, -200);
        x.run(0, 1, 0, 300);
        x.run(1, 1, 0, 0);
        share("at TOP 900", x.peak(1, 0), x.peak(1, 1), 300, 1);
        due("best(0)", x.best(0), 1);
        x.rule(3, 800);
        share("at TOP 800", x.peak(1, 0), x.peak(1, 1), 350, 1);
        x.station(0, 100);
        x.run(1, 1, 100, 320);
        share("another TRAIN's AMPERES", x.peak(1, 0), x.peak(1, 1), 350, 1);
        x.set(0, false);
        share("without 0", x.peak(1, 0), x.peak(1, 1), 400, 1);
        x.train();
        due("a new TRAIN", x.peak(1, 12), 0);
    }

    private static void used() {
        begin(22);
        x.train();
        due("DARK", x.used(0), LOST);
        x.station(0, 0);
        due("used(1)", x.used(1), LOST);
        due("used(-1)", x.used(-1), LOST);
        due("away", x.used(0), 0);
        x.run(0, 0, 100, 5);
        // 749.5 * 5 and 749.7 * 3
        due("3747.5, cut", x.used(0), 3747);
        x.run(0, 1, 100, 3);
        due("2249.1, cut", x.used(0), 3747 + 2249);
        x.train();
        x.run(1, 2, 0, 100);
        x.run(0, 2, 50, -3);
        // 750.15 * -3
        due("-2250.45, cut", x.used(0), 3747 + 2249 - 2250);
        x.run(1, 2, 0, 2);
        due("TAKEN BACK: 750.05 * -1", x.used(0), 3747 + 2249 - 750);
        x.run(0, 0, -1, 0);
        x.putOff(0, 23 - 18);
        x.run(0, 19, 0, 100);
        due("beyond 23", x.used(0), 2249);
    }

    private static void given() {
        begin(23);
        x.station(0, 20);
        x.station(1, 27);
        due("given(2)", x.given(2), LOST);
        due("given(-1)", x.given(-1), LOST);
        due("nothing", x.given(0), 0);
        x.train();
        x.run(0, 0, 22, 100);
        // 750 * 500 / 7 and 750 * 200 / 7
        due("given(0)", x.given(0), 53571);
        due("given(1)", x.given(1), 21428);
        x.run(0, 1, 22, 100);
        due("each cut", x.given(0), 2 * 53571);
        due("each cut", x.given(1), 2 * 21428);
        x.set(1, false);
        due("all", x.given(0), 150000);
        due("OUT", x.given(1), 0);
        x.set(0, false);
        due("DARK", x.given(0), LOST);
    }

    private static void best() {
        begin(24);
        x.rule(1, 10);
        x.train();
        x.train();
        x.run(0, 0, 80, 100);
        x.run(1, 1, 40, 100);
        // From 60 both have 20 to go.
        due("without a STATION", x.best(0), 60);
        share("LOWEST then", x.best(1), x.best(2), 730, 1);
        x.station(0, 0);
        x.run(1, 0, 30, 7);
        // From 64 the TRAIN at 80 has 734; between 0 and 65 the one at 40 has 750 less 1000 / 65.
        due("with a STATION at 0", x.best(0), 65);
        share("LOWEST then", x.best(1), x.best(2), 9550, 13);
        x.set(0, false);
        due("with one OUT", x.best(0), 60);
        x.station(0, 60);
        x.set(1, false);
        due("60 is not free", x.best(0), 59);
        share("LOWEST then", x.best(1), x.best(2), 729, 1);
        due("there is no new STATION", x.many(0), 2);
        x.rule(1, 20);
        share("with another R", x.best(1), x.best(2), 708, 1);
        x.run(0, 0, -1, 0);
        due("with a TRAIN less", x.best(0), 40);
        x.run(0, 0, 80, 100);
        x.run(0, 23, 0, 400);
        due("with a TRAIN more", x.best(0), 16);
        x.putOff(0, 1);
        due("with a TRAIN left out", x.best(0), 59);
        due("best(-1)", x.best(-1), LOST);
        due("best(3)", x.best(3), LOST);
    }

    private static void bestRefusals() {
        begin(24);
        due("no TRAIN", x.best(0), LOST);
        x.train();
        due("no TRAIN there", x.best(0), LOST);
        x.run(0, 23, 0, 0);
        due("the first place", x.best(0), 0);
        x.putOff(0, 1);
        due("left out beyond 23", x.best(0), LOST);
        x.putOff(0, 0);
        x.rule(0, 1);
        x.station(0, 0);
        due("one place is free", x.best(0), 1);
        x.station(0, 1);
        due("no place is free", x.best(0), LOST);
        x.rule(0, 100);
        x.station(0, 2);
        x.station(0, 3);
        due("four STATIONS", x.best(0), 4);
        x.station(0, 4);
        due("five STATIONS", x.best(0), LOST);
        x.set(4, false);
        due("five STATIONS, one OUT", x.best(0), LOST);
    }

    private static void sheet() {
        begin(25);
        due("sheet(4, 0, 1)", x.sheet(4, 0, 1), -1);
        due("sheet(-1, 0, -1)", x.sheet(-1, 0, -1), -1);
        due("sheet(0, 3, -1)", x.sheet(0, 3, -1), -2);
        due("sheet(0, -1, 1)", x.sheet(0, -1, 1), -2);
        due("sheet(0, 0, 61)", x.sheet(0, 0, 61), -2);
        due("fault()", x.fault(), 0);
        due("sheet(0, 0, -1)", x.sheet(0, 0, -1), -14);
        due("fault()", x.fault(), 4);
        due("sheet(0, 0, MIN)", x.sheet(0, 0, MIN), -14);
        due("it has nothing", x.lose(0), 0);
        due("sheet(0, 0, 0)", x.sheet(0, 0, 0), 1);
        due("fault()", x.fault(), 0);
        due("of none", x.put(0, 0, 1), -13);
        due("sheet(0, 2, 60)", x.sheet(0, 2, 60), 1);
        x.put(0, 0, 6);
        x.put(0, 59, 7);
        due("sheet(0, 0, 61)", x.sheet(0, 0, 61), -2);
        due("it is as it was", x.cell(0, 59, 2), 7);
        due("sheet(0, 2, 60)", x.sheet(0, 2, 60), 1);
        due("a new row", x.cell(0, 0, 2), 0);
        due("a new row", x.cell(0, 59, 2), 0);
        due("sheet(3, 1, 2)", x.sheet(3, 1, 2), 1);
        due("put(3, 2, 1)", x.put(3, 2, 1), -13);
    }

    private static void lose() {
        begin(26);
        due("lose(-1)", x.lose(-1), -1);
        due("lose(4)", x.lose(4), -1);
        for (int k = 0; k < 4; k++) {
            due("lose(" + k + ")", x.lose(k), 0);
            x.sheet(k, 0, 0);
            due("lose(" + k + ")", x.lose(k), 1);
            due("lose(" + k + ")", x.lose(k), 0);
            due("put(" + k + ", 0, 1)", x.put(k, 0, 1), -11);
        }
    }

    private static void put() {
        begin(27);
        due("put(4, 0, 1)", x.put(4, 0, 1), -1);
        due("put(-1, 0, 1)", x.put(-1, 0, 1), -1);
        due("NULL comes ahead of INDEX", x.put(0, -1, 1), -11);
        due("fault()", x.fault(), 1);
        int[] values = {127, 128, -129, 32768, -32769, 65536, MAX, MIN};
        for (int lane = 0; lane < 3; lane++) {
            x.sheet(lane, lane, 9);
            for (int i = 0; i < values.length; i++) {
                due("put(" + lane + ", " + i + ")", x.put(lane, i, values[i]), 1);
            }
            due("fault()", x.fault(), 0);
            for (int i = 0; i < values.length; i++) {
                int want = lane == 0 ? (byte) values[i] : lane == 1 ? (short) values[i] : values[i];
                due("cell(" + lane + ", " + i + ", " + lane + ")", x.cell(lane, i, lane), want);
            }
            due("never put", x.cell(lane, 8, lane), 0);
            due("put(" + lane + ", 9, 1)", x.put(lane, 9, 1), -13);
            due("fault()", x.fault(), 3);
            due("put(" + lane + ", -1, 1)", x.put(lane, -1, 1), -13);
            due("put(" + lane + ", MAX, 1)", x.put(lane, MAX, 1), -13);
        }
    }

    private static void cell() {
        begin(28);
        x.sheet(1, 1, 2);
        x.put(1, 1, -5);
        due("cell(1, 1, 1)", x.cell(1, 1, 1), -5);
        due("fault()", x.fault(), 0);
        long[][] calls = {
            {4, 0, 0, 0}, {-1, 0, 0, 0}, {1, 9, 3, 0}, {0, 0, -1, 0},
            {1, 9, 0, 2}, {1, 0, 2, 2}, {0, 9, 0, 1}, {0, 0, 2, 1},
            {1, 2, 1, 3}, {1, -1, 1, 3}, {1, MAX, 1, 3}, {1, MIN, 1, 3},
        };
        for (long[] c : calls) {
            String told = "cell(" + c[0] + ", " + c[1] + ", " + c[2] + ")";
            due(told, x.cell((int) c[0], (int) c[1], (int) c[2]), LOST);
            due("fault() after " + told, x.fault(), c[3]);
        }
    }

    private static void tell() {
        begin(29);
        due("tell(0)", x.tell(0), -1);
        threeStations();
        due("tell(-1)", x.tell(-1), -1);
        due("tell(3)", x.tell(3), -1);
        due("trace()", x.trace(), 0);
        due("POST", x.tell(0), 20);
        due("trace()", x.trace(), 1);
        due("HOUSE", x.tell(1), 1060);
        due("trace()", x.trace(), (31 + 2) * 31 + 1);
        begin(29);
        threeStations();
        due("WORKS", x.tell(2), 1160);
        due("trace()", x.trace(), ((3 * 31 + 2) * 31 + 1) * 31 + 1);
        for (int s = 0; s < 3; s++) {
            x.set(s, false);
        }
        due("POST, OUT", x.tell(0), 20);
        due("HOUSE, OUT", x.tell(1), 60);
        due("WORKS, OUT", x.tell(2), 160);
    }

    private static void call() {
        begin(30);
        due("call(0)", x.call(0), -1);
        threeStations();
        due("call(3)", x.call(3), -1);
        due("call(-1)", x.call(-1), -1);
        due("trace()", x.trace(), 0);
        due("POST", x.call(0), 0);
        due("trace()", x.trace(), 4);
        due("HOUSE", x.call(1), 1);
        due("trace()", x.trace(), 4 * 31 + 4);
        due("WORKS", x.call(2), 50);
        due("trace()", x.trace(), (4 * 31 + 4) * 31 + 5);
    }

    private static void as() {
        begin(31);
        due("as(0, 0)", x.as(0, 0), -1);
        threeStations();
        for (int s = 0; s < 3; s++) {
            for (int kind = 0; kind < 3; kind++) {
                due("as(" + s + ", " + kind + ")", x.as(s, kind), kind <= s ? 1 : -12);
                due("fault()", x.fault(), kind <= s ? 0 : 2);
            }
        }
        x.as(0, 2);
        due("as(0, 3)", x.as(0, 3), -2);
        due("fault()", x.fault(), 0);
        x.as(0, 2);
        due("as(0, -1)", x.as(0, -1), -2);
        due("fault()", x.fault(), 0);
        x.as(0, 2);
        due("as(3, 9)", x.as(3, 9), -1);
        due("fault()", x.fault(), 0);
        due("trace()", x.trace(), 0);
    }

    private static void trace() {
        begin(32);
        threeStations();
        int want = 0;
        for (int i = 0; i < 12; i++) {
            x.call(2);
            want = 31 * want + 5;
            due("trace()", x.trace(), want);
        }
        due("it stays", x.trace(), want);
    }

    private static void fault() {
        begin(33);
        due("ahead of any", x.fault(), 0);
        x.put(0, 0, 0);
        due("NULL", x.fault(), 1);
        due("again", x.fault(), 1);
        // Calls that name no FAULTS leave it.
        threeStations();
        x.train();
        x.run(0, 0, 0, 1);
        x.run(9, 0, 0, 1);
        x.lose(0);
        x.lose(9);
        x.tell(0);
        x.many(9);
        x.volts(0, 0, 0);
        x.peak(1, 0);
        x.best(0);
        due("left", x.fault(), 1);
        x.put(9, 0, 0);
        due("refused", x.fault(), 0);
        x.as(0, 1);
        due("CAST", x.fault(), 2);
        x.sheet(0, 0, 2);
        due("came to none", x.fault(), 0);
        x.put(0, 2, 0);
        due("INDEX", x.fault(), 3);
        x.put(0, 1, 0);
        due("came to none", x.fault(), 0);
        x.sheet(0, 0, -1);
        due("SIZE", x.fault(), 4);
        x.runs(0, 0, 0, 0, 30);
        due("INDEX", x.fault(), 3);
        x.runs(0, 0, 0, 0, 1);
        due("came to none", x.fault(), 0);
        x.cell(0, 0, 1);
        due("CAST", x.fault(), 2);
        x.cell(0, 0, 0);
        due("came to none", x.fault(), 0);
    }

    private static void many() {
        begin(34);
        due("many(-1)", x.many(-1), -2);
        due("many(4)", x.many(4), -2);
        threeStations();
        x.set(1, false);
        x.train();
        x.train();
        x.run(0, 0, 5, 0);
        x.run(1, 0, 5, 0);
        x.run(1, 23, 5, 0);
        due("STATIONS", x.many(0), 3);
        due("of them IN", x.many(1), 2);
        due("TRAINS", x.many(2), 2);
        due("TICKS", x.many(3), 2);
        x.putOff(0, 1);
        due("TICKS", x.many(3), 3);
        x.putOff(1, 1);
        due("TICKS", x.many(3), 1);
    }
}
