import java.lang.reflect.Method;
import java.util.ArrayList;
import java.util.Arrays;
import java.util.HashMap;
import java.util.List;
import java.util.Map;
import java.util.Set;

/**
 * Each sentence of the document that names a boundary case: the last number that is taken and the
 * first that is refused on each side, the empty line and the full one, each refusal, each FAULT.
 *
 * <p>A sentence is a run of calls on a new object, "call = answer" each, parted by semicolons; a
 * call without an answer must not be refused; a star stands for 0 and 1, the answer is then a share.
 * After each call fault() is looked at, too. For each refused call the run up to it is made twice,
 * with it and without it, and all that the two objects tell must be the same.
 */
public final class RailPowerBoundaries {
    private static final int MOST_CALLS = 512;
    private static final Set<String> NAMING_FAULTS = Set.of("runs", "sheet", "put", "cell", "as");
    private static final Map<String, Long> WORDS = new HashMap<>();
    private static final Map<String, Method> METHODS = new HashMap<>();

    private static int wrong = 0;
    private static int sentences = 0;
    private static int refusals = 0;

    static {
        String[] words = {"UNKNOWN", "OUTSIDE", "STATE", "FULL", "NONE", "NULL", "CAST", "INDEX", "SIZE", "true", "false"};
        long[] meant = {-1, -2, -3, -4, -9, -11, -12, -13, -14, 1, 0};
        for (int i = 0; i < words.length; i++) {
            WORDS.put(words[i], meant[i]);
        }
        WORDS.put("LOST", Long.MIN_VALUE);
        WORDS.put("MIN", (long) Integer.MIN_VALUE);
        WORDS.put("MAX", (long) Integer.MAX_VALUE);
        for (Method method : RailPower.class.getDeclaredMethods()) {
            METHODS.put(method.getName(), method);
        }
    }

    public static void main(String[] args) {
        newObject();
        refusalsInOrder();
        faultsInOrder();
        rules();
        rulesState();
        stations();
        stationNumbers();
        switches();
        trains();
        runOne();
        runMany();
        runManyRefused();
        putOff();
        at();
        between();
        beyond();
        setsThatFeed();
        takenBack();
        feedsVoltsGives();
        shares();
        lowest();
        safe();
        firstOut();
        most();
        shorted();
        right();
        peak();
        peakRows();
        used();
        given();
        best();
        sheets();
        cells();
        telling();
        as();
        fault();
        many();
        calls();
        System.out.println(wrong == 0 ? sentences + " sentences hold, " + refusals + " refused calls change nothing"
                : wrong + " answers are not as due");
        if (wrong != 0) {
            System.exit(1);
        }
    }

    // ---- Terms

    private static void newObject() {
        says("1: no STATIONS",
                "many(0) = 0; many(1) = 0; about(0, 0) = UNKNOWN; set(0, true) = UNKNOWN; trip(0, 0) = UNKNOWN",
                "tell(0) = UNKNOWN; call(0) = UNKNOWN; as(0, 0) = UNKNOWN; given(0) = LOST; gives(0, 0, 0) = LOST");
        says("1: no TRAINS",
                "many(2) = 0; many(3) = 0; at(0, 0, 0) = UNKNOWN; run(0, 0, 0, 0) = UNKNOWN; putOff(0, 0) = UNKNOWN",
                "runs(0, 0, 0, 0, 0) = UNKNOWN; used(0) = LOST; peak(1, 10) = LOST; best(0) = LOST");
        says("1: no SHEETS",
                "lose(0) = 0; lose(1) = 0; lose(2) = 0; lose(3) = 0",
                "put(0, 0, 1) = NULL; put(3, 0, 1) = NULL; cell(1, 0, 1) = LOST NULL; cell(2, 0, 0) = LOST NULL",
                "train(); runs(0, 0, 0, 0, 0) = NULL; runs(0, 3, 2, 0, 0) = NULL");
        says("1: at first LONG is 100, R 1, V 750, TOP 900, LOW 500",
                "rule(0, 100) = 100; rule(1, 1) = 1; rule(2, 750) = 750; rule(3, 900) = 900; rule(4, 500) = 500");
        says("1: TRACE and FAULT are 0 at first", "trace() = 0; fault() = 0");
        says("3: with no STATION each TICK is DARK",
                "train(); run(0, 0, 5, 5); feeds(0) = STATE; feeds(23) = STATE; volts(0, 0, 0) = LOST; at(0, 0, 2) = STATE",
                "lowest(0) = LOST; safe() = STATE; firstOut() = STATE; most(0) = LOST; shorted(0, 1) = STATE",
                "right(1) = STATE; peak(1, 0) = LOST; peak(1, 10) = LOST; used(0) = LOST");
        says("2: with all STATIONS OUT each TICK is DARK",
                "station(0, 5); station(2, 9); set(0, false); set(1, false); train(); run(0, 0, 5, 5)",
                "feeds(0) = STATE; feeds(23) = STATE; volts(0, 5, 0) = LOST; volts(0, 5, 1) = LOST; gives(0, 0, 0) = LOST",
                "at(0, 0, 2) = STATE; lowest(0) = LOST; lowest(2) = LOST; safe() = STATE; firstOut() = STATE; most(1) = LOST",
                "shorted(5, 1) = STATE; right(1) = STATE; peak(1, 1) = LOST; peak(2, 10) = LOST; used(0) = LOST; given(1) = LOST",
                "set(1, true); feeds(0) = 2; safe() = 1; lowest(2) = 0; set(1, false); safe() = STATE");
    }

    private static void refusalsInOrder() {
        says("REFUSALS: UNKNOWN is ahead of OUTSIDE",
                "rule(5, 0) = UNKNOWN; rule(-1, MIN) = UNKNOWN; trip(0, -1) = UNKNOWN; about(0, 4) = UNKNOWN",
                "run(0, 0, 101, 0) = UNKNOWN; putOff(0, 6) = UNKNOWN; at(0, 0, 3) = UNKNOWN; shorted(101, 0) = UNKNOWN",
                "sheet(4, 3, 61) = UNKNOWN; as(0, 3) = UNKNOWN; runs(0, 0, 3, 0, 0) = UNKNOWN",
                "station(0, 5); train(); trip(1, 100001) = UNKNOWN; about(1, -1) = UNKNOWN; as(1, -1) = UNKNOWN",
                "run(0, 24, -2, 0) = UNKNOWN; run(1, 0, 0, 401) = UNKNOWN; at(0, 24, 3) = UNKNOWN; runs(0, 4, -1, 0, 0) = UNKNOWN");
        says("REFUSALS: UNKNOWN is ahead of STATE",
                "feeds(24) = UNKNOWN; feeds(-1) = UNKNOWN; shorted(-1, 1) = UNKNOWN; at(0, 0, 2) = UNKNOWN",
                "train(); at(0, 24, 2) = UNKNOWN; at(1, 0, 2) = UNKNOWN");
        says("REFUSALS: OUTSIDE is ahead of STATE",
                "rule(2, 2001) = OUTSIDE; rule(2, 99) = OUTSIDE; rule(3, 99) = OUTSIDE; rule(4, 2001) = OUTSIDE",
                "shorted(0, 0) = OUTSIDE; shorted(0, 100001) = OUTSIDE; right(0) = OUTSIDE; right(100001) = OUTSIDE",
                "train(); at(0, 0, 3) = OUTSIDE; at(0, 0, -1) = OUTSIDE",
                "station(0, 60); rule(0, 0) = OUTSIDE; station(3, 60) = OUTSIDE; station(-1, 60) = OUTSIDE");
        says("REFUSALS: OUTSIDE and STATE are ahead of FULL",
                "station(0, 0); station(0, 1); station(0, 2); station(0, 3); station(0, 100)",
                "station(3, 50) = OUTSIDE; station(0, 101) = OUTSIDE; station(0, -1) = OUTSIDE",
                "station(0, 0) = STATE; station(2, 100) = STATE; station(0, 4) = FULL");
    }

    private static void faultsInOrder() {
        says("FAULTS: refusals ahead of them are looked at first",
                "sheet(4, 0, -1) = UNKNOWN; sheet(0, 3, -1) = OUTSIDE; sheet(0, -1, -1) = OUTSIDE",
                "put(4, -1, 0) = UNKNOWN; put(-1, 0, 0) = UNKNOWN; cell(4, 0, 0) = LOST; cell(0, 0, 3) = LOST; cell(0, -1, -1) = LOST",
                "train(); runs(1, 0, 0, 0, -1) = UNKNOWN; runs(0, 4, 0, 0, -1) = UNKNOWN; runs(0, 0, 3, 0, -1) = OUTSIDE",
                "station(0, 1); as(1, 2) = UNKNOWN; as(0, 3) = OUTSIDE");
        says("9: CAST, NULL, SIZE, INDEX, then OUTSIDE, in the order told",
                "train(); sheet(0, 1, 60); sheet(1, 1, 10)",
                "runs(0, 0, 0, -1, -1) = CAST; runs(0, 0, 2, 61, 0) = CAST; runs(0, 0, 0, 0, 25) = CAST",
                "runs(0, 3, 1, -1, -1) = NULL; runs(0, 3, 0, 61, 25) = NULL",
                "runs(0, 0, 1, -1, -1) = SIZE; runs(0, 0, 1, 61, -1) = SIZE; runs(0, 0, 1, 0, MIN) = SIZE",
                "runs(0, 1, 1, 0, 25) = INDEX; runs(0, 0, 1, -1, 25) = INDEX; runs(0, 0, 1, 0, 31) = INDEX",
                "put(0, 0, 101); put(1, 0, 101); runs(0, 1, 1, 0, 6) = INDEX; runs(0, 0, 1, 0, 25) = OUTSIDE; runs(0, 1, 1, 0, 5) = OUTSIDE");
        says("9, 28: nothing is no CAST, whatever the LANE",
                "train(); runs(0, 2, 0, 0, 0) = NULL; runs(0, 2, 1, 0, 0) = NULL; runs(0, 2, 2, 0, 0) = NULL",
                "cell(2, 0, 0) = LOST NULL; cell(2, 0, 1) = LOST NULL; cell(2, 0, 2) = LOST NULL",
                "sheet(2, 1, 0); cell(2, 0, 0) = LOST CAST; cell(2, 0, 1) = LOST INDEX; lose(2); cell(2, 0, 0) = LOST NULL");
        says("27: NULL is ahead of INDEX; 28: CAST and NULL are ahead of INDEX",
                "put(0, -1, 0) = NULL; put(0, 60, 0) = NULL; cell(0, -1, 0) = LOST NULL; cell(0, 60, 0) = LOST NULL",
                "sheet(0, 0, 2); cell(0, -1, 1) = LOST CAST; cell(0, 2, 2) = LOST CAST; cell(0, 2, 0) = LOST INDEX; put(0, 2, 0) = INDEX");
        says("INDEX of cells from i on also where i is not 0 .. how many there are, if none is taken, too",
                "train(); sheet(0, 0, 0); runs(0, 0, 0, 0, 0) = 0; runs(0, 0, 0, 1, 0) = INDEX; runs(0, 0, 0, -1, 0) = INDEX",
                "sheet(1, 1, 5); runs(0, 1, 1, 0, 0) = 0; runs(0, 1, 1, 5, 0) = 0; runs(0, 1, 1, 6, 0) = INDEX; runs(0, 1, 1, -1, 0) = INDEX",
                "runs(0, 1, 1, MAX, 0) = INDEX; runs(0, 1, 1, MIN, 0) = INDEX",
                "sheet(2, 2, 60); runs(0, 2, 2, 60, 0) = 0; runs(0, 2, 2, 61, 0) = INDEX; runs(0, 2, 2, -1, 0) = INDEX");
    }

    // ---- 1 the line

    private static void rules() {
        says("2: UNKNOWN: what",
                "rule(-1, 100) = UNKNOWN; rule(5, 100) = UNKNOWN; rule(MIN, 100) = UNKNOWN; rule(MAX, 100) = UNKNOWN");
        says("LONG 1 .. 200",
                "rule(0, 0) = OUTSIDE; rule(0, -1) = OUTSIDE; rule(0, 201) = OUTSIDE; rule(0, MIN) = OUTSIDE; rule(0, MAX) = OUTSIDE",
                "rule(0, 1) = 100; rule(0, 200) = 1; rule(0, 199) = 200; rule(0, 199) = 199");
        says("R 1 .. 20",
                "rule(1, 0) = OUTSIDE; rule(1, -1) = OUTSIDE; rule(1, 21) = OUTSIDE; rule(1, MIN) = OUTSIDE; rule(1, MAX) = OUTSIDE",
                "rule(1, 20) = 1; rule(1, 1) = 20; rule(1, 19) = 1; rule(1, 19) = 19");
        says("V 100 .. 2000",
                "rule(3, 3000); rule(4, 1)",
                "rule(2, 99) = OUTSIDE; rule(2, 2001) = OUTSIDE; rule(2, 0) = OUTSIDE; rule(2, MIN) = OUTSIDE; rule(2, MAX) = OUTSIDE",
                "rule(2, 100) = 750; rule(2, 2000) = 100; rule(2, 101) = 2000; rule(2, 1999) = 101");
        says("TOP 100 .. 3000",
                "rule(4, 1); rule(2, 100)",
                "rule(3, 99) = OUTSIDE; rule(3, 3001) = OUTSIDE; rule(3, 0) = OUTSIDE; rule(3, MIN) = OUTSIDE; rule(3, MAX) = OUTSIDE",
                "rule(3, 100) = 900; rule(3, 3000) = 100; rule(3, 101) = 3000; rule(3, 2999) = 101");
        says("LOW 1 .. 2000",
                "rule(3, 2000); rule(2, 2000)",
                "rule(4, 0) = OUTSIDE; rule(4, 2001) = OUTSIDE; rule(4, -1) = OUTSIDE; rule(4, MIN) = OUTSIDE; rule(4, MAX) = OUTSIDE",
                "rule(4, 1) = 500; rule(4, 2000) = 1; rule(4, 2) = 2000; rule(4, 1999) = 2");
        says("1: places are 0 .. LONG, the least and the greatest",
                "rule(0, 1); station(0, 2) = OUTSIDE; station(0, 1) = 0; station(0, 0) = 1; train(); run(0, 0, 2, 0) = OUTSIDE; run(0, 0, 1, 0) = 1",
                "volts(0, 1, 0) = 750; volts(0, 2, 0) = LOST; shorted(1, 1) = 1; shorted(2, 1) = UNKNOWN",
                "rule(0, 200); station(0, 201) = OUTSIDE; station(0, 200) = 2; run(0, 0, 201, 0) = OUTSIDE; run(0, 0, 200, 0) = 1",
                "volts(0, 200, 0) = 750; volts(0, 201, 0) = LOST; shorted(200, 1) = 4; shorted(201, 1) = UNKNOWN");
    }

    private static void rulesState() {
        says("2: STATE: a STATION is beyond",
                "station(0, 40); rule(0, 39) = STATE; rule(0, 1) = STATE; rule(0, 40) = 100; rule(0, 41) = 40",
                "set(0, false); rule(0, 39) = STATE; rule(0, 40) = 41");
        says("2: STATE: the last of five STATIONS is beyond",
                "station(0, 0); station(0, 1); station(0, 2); station(0, 3); station(0, 100); rule(0, 99) = STATE; rule(0, 100) = 100");
        says("2: STATE: a TRAIN is beyond at the first TICK, at the last one",
                "train(); run(0, 0, 40, 0); rule(0, 39) = STATE; rule(0, 40) = 100; run(0, 0, -1, 0); rule(0, 1) = 40",
                "rule(0, 100); run(0, 23, 40, 0); rule(0, 39) = STATE; rule(0, 40) = 100");
        says("2: STATE: the last of five TRAINS is beyond",
                "train(); train(); train(); train(); train(); run(4, 23, 100, -400); rule(0, 99) = STATE; rule(0, 100) = 100",
                "run(4, 23, -1, 0); rule(0, 1) = 100");
        says("2: STATE: V would be above TOP",
                "rule(2, 901) = STATE; rule(2, 2000) = STATE; rule(2, 900) = 750; rule(3, 899) = STATE; rule(3, 100) = STATE; rule(3, 900) = 900");
        says("2: STATE: V would be below LOW",
                "rule(2, 499) = STATE; rule(2, 100) = STATE; rule(2, 500) = 750; rule(4, 501) = STATE; rule(4, 2000) = STATE; rule(4, 500) = 500");
        says("2: LOW may be as V and as TOP",
                "rule(3, 750) = 900; rule(4, 750) = 500; rule(2, 749) = STATE; rule(2, 751) = STATE; rule(2, 750) = 750");
    }

    private static void stations() {
        says("3: OUTSIDE: kind",
                "station(-1, 5) = OUTSIDE; station(3, 5) = OUTSIDE; station(MIN, 5) = OUTSIDE; station(MAX, 5) = OUTSIDE",
                "station(0, 5) = 0; station(2, 6) = 1; about(0, 0) = 0; about(1, 0) = 2");
        says("3: OUTSIDE: place",
                "station(0, -1) = OUTSIDE; station(0, 101) = OUTSIDE; station(0, MIN) = OUTSIDE; station(0, MAX) = OUTSIDE",
                "station(0, 0) = 0; station(0, 100) = 1; about(0, 1) = 0; about(1, 1) = 100");
        says("3: STATE: there is one at it, IN or OUT",
                "station(0, 50); station(1, 50) = STATE; set(0, false); station(2, 50) = STATE; station(0, 49) = 1; station(0, 51) = 2");
        says("STATIONS, 5 ever, numbered as they come; 3: FULL",
                "station(0, 9) = 0; station(0, 8) = 1; station(0, 7) = 2; station(0, 6) = 3; station(0, 5) = 4; station(0, 4) = FULL",
                "set(4, false); station(0, 4) = FULL; many(0) = 5; about(4, 1) = 5");
        says("a STATION is IN at first, with a SWITCH of 3000",
                "station(0, 0); station(0, 1); station(0, 2); station(0, 3); station(0, 4)",
                "about(0, 2) = 1; about(0, 3) = 3000; about(4, 2) = 1; about(4, 3) = 3000; set(4, true) = 0; trip(4, 1) = 3000");
    }

    private static void stationNumbers() {
        says("4, 5, 6, 29, 30, 31: UNKNOWN: a line of one STATION",
                "station(0, 0)",
                "set(-1, false) = UNKNOWN; set(1, false) = UNKNOWN; set(MIN, true) = UNKNOWN; set(MAX, true) = UNKNOWN",
                "trip(-1, 0) = UNKNOWN; trip(1, 0) = UNKNOWN; trip(MIN, 0) = UNKNOWN; trip(MAX, 0) = UNKNOWN",
                "about(-1, 0) = UNKNOWN; about(1, 0) = UNKNOWN; about(MIN, 0) = UNKNOWN; about(MAX, 0) = UNKNOWN",
                "tell(-1) = UNKNOWN; tell(1) = UNKNOWN; tell(MIN) = UNKNOWN; tell(MAX) = UNKNOWN",
                "call(-1) = UNKNOWN; call(1) = UNKNOWN; call(MIN) = UNKNOWN; call(MAX) = UNKNOWN",
                "as(-1, 0) = UNKNOWN; as(1, 0) = UNKNOWN; as(MIN, 0) = UNKNOWN; as(MAX, 0) = UNKNOWN",
                "set(0, false) = 1; trip(0, 7) = 3000; about(0, 3) = 7; tell(0) = 0; call(0) = 0; as(0, 0) = 1");
        says("4, 5, 6, 29, 30, 31: UNKNOWN: a line of five",
                "station(0, 0); station(0, 1); station(0, 2); station(0, 3); station(0, 4)",
                "set(5, false) = UNKNOWN; trip(5, 0) = UNKNOWN; about(5, 0) = UNKNOWN; tell(5) = UNKNOWN; call(5) = UNKNOWN; as(5, 0) = UNKNOWN",
                "set(-1, false) = UNKNOWN; trip(-1, 0) = UNKNOWN; about(-1, 0) = UNKNOWN; tell(-1) = UNKNOWN; call(-1) = UNKNOWN; as(-1, 0) = UNKNOWN",
                "set(4, false) = 1; trip(4, 7) = 3000; about(4, 3) = 7; tell(4) = 4; call(4) = 4; as(4, 0) = 1");
        says("4: 1; 0: it was so",
                "station(0, 0); set(0, true) = 0; set(0, false) = 1; set(0, false) = 0; set(0, true) = 1; set(0, true) = 0; about(0, 2) = 1");
    }

    private static void switches() {
        says("a SWITCH is 0 .. 100000",
                "station(0, 0); trip(0, -1) = OUTSIDE; trip(0, 100001) = OUTSIDE; trip(0, MIN) = OUTSIDE; trip(0, MAX) = OUTSIDE",
                "trip(0, 0) = 3000; about(0, 3) = 0; trip(0, 100000) = 0; about(0, 3) = 100000; trip(0, 99999) = 100000");
        says("6: OUTSIDE",
                "station(1, 7); about(0, -1) = OUTSIDE; about(0, 4) = OUTSIDE; about(0, MIN) = OUTSIDE; about(0, MAX) = OUTSIDE",
                "about(0, 0) = 1; about(0, 1) = 7; about(0, 2) = 1; about(0, 3) = 3000; set(0, false); about(0, 2) = 0");
    }

    // ---- 2 trains

    private static void trains() {
        says("TRAINS, 5 ever, numbered as they come; 7: FULL",
                "train() = 0; train() = 1; train() = 2; train() = 3; train() = 4; train() = FULL; train() = FULL; many(2) = 5");
        says("7: away at all TICKS",
                "train(); at(0, 0, 0) = NONE; at(0, 23, 0) = NONE; at(0, 0, 1) = 0; at(0, 23, 1) = 0; many(3) = 0; putOff(0, 0) = 0",
                "station(0, 0); at(0, 0, 2) = 0; at(0, 23, 2) = 0; lowest(0) = LOST");
    }

    private static void runOne() {
        says("8: UNKNOWN: TRAIN",
                "train(); run(-1, 0, 5, 5) = UNKNOWN; run(1, 0, 5, 5) = UNKNOWN; run(MIN, 0, 5, 5) = UNKNOWN; run(MAX, 0, 5, 5) = UNKNOWN",
                "train(); train(); train(); train(); run(5, 0, 5, 5) = UNKNOWN; run(4, 0, 5, 5) = 1; run(0, 0, 5, 5) = 1");
        says("8: UNKNOWN: TICK; TICKS 0 .. 23",
                "train(); run(0, -1, 5, 5) = UNKNOWN; run(0, 24, 5, 5) = UNKNOWN; run(0, MIN, 5, 5) = UNKNOWN; run(0, MAX, 5, 5) = UNKNOWN",
                "run(0, 0, 5, 5) = 1; run(0, 23, 6, 6) = 1; at(0, 0, 0) = 5; at(0, 23, 0) = 6; many(3) = 2");
        says("8: OUTSIDE: place",
                "train(); run(0, 0, -2, 5) = OUTSIDE; run(0, 0, 101, 5) = OUTSIDE; run(0, 0, MIN, 5) = OUTSIDE; run(0, 0, MAX, 5) = OUTSIDE",
                "run(0, 0, 0, 5) = 1; at(0, 0, 0) = 0; run(0, 0, 100, 5) = 1; at(0, 0, 0) = 100; run(0, 0, 101, 5) = OUTSIDE");
        says("8: OUTSIDE: AMPERES -400 .. 400",
                "train(); run(0, 0, 5, -401) = OUTSIDE; run(0, 0, 5, 401) = OUTSIDE; run(0, 0, 5, MIN) = OUTSIDE; run(0, 0, 5, MAX) = OUTSIDE",
                "run(0, 0, 5, -400) = 1; at(0, 0, 1) = -400; run(0, 0, 5, 400) = 1; at(0, 0, 1) = 400; run(0, 0, 5, 401) = OUTSIDE",
                "run(0, 0, 5, 0) = 1; at(0, 0, 1) = 0; at(0, 0, 0) = 5");
        says("8: place -1: away; AMPERES are not looked at",
                "train(); run(0, 0, 5, 5); run(0, 0, -1, 401) = 1; at(0, 0, 0) = NONE; at(0, 0, 1) = 0; run(0, 0, -1, MIN) = 1; run(0, 0, -1, MAX) = 1",
                "run(0, 23, -1, 7) = 1; at(0, 23, 1) = 0; many(3) = 0; station(0, 0); at(0, 0, 2) = 0; used(0) = 0; most(*) = 0/1; lowest(0) = LOST");
    }

    private static void runMany() {
        says("9: all cells, from the first to the last; at how many it is not away",
                "train(); sheet(0, 1, 6); put(0, 0, 0); put(0, 1, -400); put(0, 2, 100); put(0, 3, 400); put(0, 4, -1); put(0, 5, 401)",
                "runs(0, 0, 1, 0, 3) = 2; at(0, 0, 0) = 0; at(0, 0, 1) = -400; at(0, 1, 0) = 100; at(0, 1, 1) = 400; at(0, 2, 0) = NONE; at(0, 2, 1) = 0",
                "runs(0, 0, 1, 4, 1) = 0; many(3) = 0; runs(0, 0, 1, 2, 2) = 1; at(0, 0, 0) = 100; at(0, 1, 0) = NONE");
        says("9: away at all others",
                "train(); run(0, 2, 7, 7); run(0, 23, 7, 7); sheet(0, 0, 4); put(0, 0, 9); put(0, 2, 8)",
                "runs(0, 0, 0, 0, 2) = 2; at(0, 0, 0) = 9; at(0, 1, 0) = 8; at(0, 2, 0) = NONE; at(0, 23, 0) = NONE; many(3) = 2",
                "runs(0, 0, 0, 0, 1) = 1; at(0, 1, 0) = NONE; many(3) = 1; runs(0, 0, 0, 4, 0) = 0; at(0, 0, 0) = NONE; many(3) = 0");
        says("9: 24 TICKS, and n above 24 is OUTSIDE",
                "train(); sheet(0, 2, 60); put(0, 46, 33); put(0, 47, 44); put(0, 58, 55)",
                "runs(0, 0, 2, 0, 24) = 24; at(0, 23, 0) = 33; at(0, 23, 1) = 44; many(3) = 24",
                "runs(0, 0, 2, 0, 25) = OUTSIDE; runs(0, 0, 2, 0, 30) = OUTSIDE; runs(0, 0, 2, 0, 31) = INDEX; runs(0, 0, 2, 10, 25) = OUTSIDE",
                "runs(0, 0, 2, 11, 25) = INDEX; runs(0, 0, 2, 12, 24) = 24; at(0, 23, 0) = 55");
        says("9: the row's LANE: bytes, shorts, ints",
                "rule(0, 200); train(); sheet(0, 0, 2); put(0, 0, 127); put(0, 1, -128); runs(0, 0, 0, 0, 1) = 1; at(0, 0, 0) = 127; at(0, 0, 1) = -128",
                "put(0, 0, 128); runs(0, 0, 0, 0, 1) = OUTSIDE; put(0, 0, 255); runs(0, 0, 0, 0, 1) = 0; put(0, 0, 256); runs(0, 0, 0, 0, 1) = 1; at(0, 0, 0) = 0",
                "sheet(1, 1, 2); put(1, 0, 65736); put(1, 1, -65936); runs(0, 1, 1, 0, 1) = 1; at(0, 0, 0) = 200; at(0, 0, 1) = -400",
                "sheet(2, 2, 2); put(2, 0, 65736); runs(0, 2, 2, 0, 1) = OUTSIDE; put(2, 0, 200); runs(0, 2, 2, 0, 1) = 1");
        says("9: the TRAIN stays PUT OFF, the SHEET stays as it is",
                "train(); putOff(0, 2); sheet(0, 2, 2); put(0, 0, 9); put(0, 1, 8); runs(0, 0, 2, 0, 1) = 1",
                "at(0, 0, 0) = NONE; at(0, 2, 0) = 9; at(0, 2, 1) = 8; cell(0, 0, 2) = 9; cell(0, 1, 2) = 8; putOff(0, 2) = 2");
        says("9: at how many it is not away, of its own TICKS: those left out since it is PUT OFF count",
                "train(); putOff(0, 5); sheet(0, 0, 48); runs(0, 0, 0, 0, 24) = 24; many(3) = 19; at(0, 4, 0) = NONE; at(0, 5, 0) = 0; putOff(0, 0); many(3) = 24");
    }

    private static void runManyRefused() {
        says("9: UNKNOWN: TRAIN, SHEET",
                "train(); sheet(0, 0, 2); sheet(3, 0, 2)",
                "runs(-1, 0, 0, 0, 1) = UNKNOWN; runs(1, 0, 0, 0, 1) = UNKNOWN; runs(MIN, 0, 0, 0, 1) = UNKNOWN; runs(MAX, 0, 0, 0, 1) = UNKNOWN",
                "runs(0, -1, 0, 0, 1) = UNKNOWN; runs(0, 4, 0, 0, 1) = UNKNOWN; runs(0, MIN, 0, 0, 1) = UNKNOWN; runs(0, MAX, 0, 0, 1) = UNKNOWN",
                "runs(0, 3, 0, 0, 1) = 1; runs(0, 0, 0, 0, 1) = 1",
                "train(); train(); train(); train(); runs(4, 0, 0, 0, 1) = 1; runs(5, 0, 0, 0, 1) = UNKNOWN");
        says("9: OUTSIDE: lane",
                "train(); sheet(0, 0, 2); sheet(1, 2, 2)",
                "runs(0, 0, -1, 0, 1) = OUTSIDE; runs(0, 0, 3, 0, 1) = OUTSIDE; runs(0, 0, MIN, 0, 1) = OUTSIDE; runs(0, 0, MAX, 0, 1) = OUTSIDE",
                "runs(0, 3, -1, 0, 1) = OUTSIDE; runs(0, 3, 3, 0, 1) = OUTSIDE; runs(0, 0, 0, 0, 1) = 1; runs(0, 1, 2, 0, 1) = 1");
        says("9: CAST, of each LANE",
                "train(); sheet(0, 0, 2); sheet(1, 1, 2); sheet(2, 2, 2)",
                "runs(0, 0, 1, 0, 1) = CAST; runs(0, 0, 2, 0, 1) = CAST; runs(0, 1, 0, 0, 1) = CAST; runs(0, 1, 2, 0, 1) = CAST",
                "runs(0, 2, 0, 0, 1) = CAST; runs(0, 2, 1, 0, 1) = CAST; runs(0, 0, 0, 0, 1) = 1; runs(0, 1, 1, 0, 1) = 1; runs(0, 2, 2, 0, 1) = 1");
        says("9: NULL, SIZE",
                "train(); run(0, 5, 5, 5); runs(0, 0, 0, 0, 1) = NULL; runs(0, 3, 2, 0, 0) = NULL; sheet(0, 0, 2); lose(0); runs(0, 0, 0, 0, 1) = NULL",
                "sheet(0, 0, 2); runs(0, 0, 0, 0, -1) = SIZE; runs(0, 0, 0, 2, -1) = SIZE; runs(0, 0, 0, 0, MIN) = SIZE; many(3) = 1; runs(0, 0, 0, 0, 0) = 0");
        says("9: INDEX: not all cells are there",
                "train(); run(0, 5, 5, 5); sheet(0, 1, 6)",
                "runs(0, 0, 1, -1, 1) = INDEX; runs(0, 0, 1, MIN, 1) = INDEX; runs(0, 0, 1, 0, 4) = INDEX; runs(0, 0, 1, 1, 3) = INDEX",
                "runs(0, 0, 1, 5, 1) = INDEX; runs(0, 0, 1, 6, 1) = INDEX; runs(0, 0, 1, 7, 0) = INDEX; runs(0, 0, 1, MAX, 1) = INDEX",
                "runs(0, 0, 1, 0, 1073741823) = INDEX; runs(0, 0, 1, 0, 1073741824) = INDEX; runs(0, 0, 1, 6, MAX) = INDEX; runs(0, 0, 1, MAX, MAX) = INDEX",
                "many(3) = 1; runs(0, 0, 1, 1, 2) = 2; runs(0, 0, 1, 4, 1) = 1; runs(0, 0, 1, 0, 3) = 3",
                "sheet(1, 0, 1); runs(0, 1, 0, 0, 1) = INDEX; runs(0, 1, 0, 1, 0) = 0; sheet(1, 0, 0); runs(0, 1, 0, 0, 1) = INDEX");
        says("9: OUTSIDE: a place, AMPERES, be it the first or the last",
                "train(); run(0, 5, 5, 5); sheet(0, 2, 6); put(0, 0, -2); runs(0, 0, 2, 0, 3) = OUTSIDE; put(0, 0, 101); runs(0, 0, 2, 0, 3) = OUTSIDE",
                "put(0, 0, MIN); runs(0, 0, 2, 0, 3) = OUTSIDE; put(0, 0, MAX); runs(0, 0, 2, 0, 3) = OUTSIDE; put(0, 0, 100)",
                "put(0, 1, 401); runs(0, 0, 2, 0, 3) = OUTSIDE; put(0, 1, -401); runs(0, 0, 2, 0, 3) = OUTSIDE; put(0, 1, 400)",
                "put(0, 4, -2); runs(0, 0, 2, 0, 3) = OUTSIDE; put(0, 4, 101); runs(0, 0, 2, 0, 3) = OUTSIDE; put(0, 4, 0)",
                "put(0, 5, 401); runs(0, 0, 2, 0, 3) = OUTSIDE; put(0, 5, -401); runs(0, 0, 2, 0, 3) = OUTSIDE; put(0, 5, -400)",
                "many(3) = 1; runs(0, 0, 2, 0, 3) = 3; at(0, 0, 0) = 100; at(0, 2, 1) = -400");
    }

    private static void putOff() {
        says("10: UNKNOWN, OUTSIDE; PUT OFF by 0 .. 5",
                "putOff(0, 0) = UNKNOWN; train(); putOff(-1, 0) = UNKNOWN; putOff(1, 0) = UNKNOWN; putOff(MIN, 0) = UNKNOWN; putOff(MAX, 0) = UNKNOWN",
                "putOff(0, -1) = OUTSIDE; putOff(0, 6) = OUTSIDE; putOff(0, MIN) = OUTSIDE; putOff(0, MAX) = OUTSIDE",
                "putOff(0, 5) = 0; putOff(0, 6) = OUTSIDE; putOff(0, 0) = 5; putOff(0, 0) = 0",
                "train(); train(); train(); train(); putOff(4, 5) = 0; putOff(5, 0) = UNKNOWN; putOff(4, 1) = 5; putOff(0, 0) = 0");
        says("what was at TICK t is at TICK t + k; what would be beyond 23 is left out",
                "train(); run(0, 0, 1, 10); run(0, 18, 2, 20); run(0, 19, 3, 30); run(0, 23, 4, 40)",
                "putOff(0, 5); at(0, 0, 0) = NONE; at(0, 4, 0) = NONE; at(0, 5, 0) = 1; at(0, 22, 0) = NONE; at(0, 23, 0) = 2; at(0, 23, 1) = 20; many(3) = 2",
                "putOff(0, 4); at(0, 3, 0) = NONE; at(0, 4, 0) = 1; at(0, 22, 0) = 2; at(0, 23, 0) = 3; many(3) = 3",
                "putOff(0, 1); at(0, 0, 0) = NONE; at(0, 0, 1) = 0; at(0, 1, 0) = 1; at(0, 23, 0) = NONE; many(3) = 3",
                "putOff(0, 0); at(0, 0, 0) = 1; at(0, 23, 0) = 4; at(0, 23, 1) = 40; many(3) = 4");
        says("what is told of a TRAIN that is PUT OFF is told of its own TICKS",
                "train(); putOff(0, 5); run(0, 0, 7, 70); at(0, 0, 0) = NONE; at(0, 5, 0) = 7; run(0, 19, 8, 80); at(0, 19, 0) = NONE; many(3) = 1",
                "putOff(0, 0); at(0, 0, 0) = 7; at(0, 19, 0) = 8; many(3) = 2");
    }

    private static void at() {
        says("11: UNKNOWN",
                "train(); at(-1, 0, 0) = UNKNOWN; at(1, 0, 0) = UNKNOWN; at(MIN, 0, 0) = UNKNOWN; at(MAX, 0, 0) = UNKNOWN",
                "at(0, -1, 0) = UNKNOWN; at(0, 24, 0) = UNKNOWN; at(0, MIN, 0) = UNKNOWN; at(0, MAX, 0) = UNKNOWN; at(0, 0, 0) = NONE; at(0, 23, 0) = NONE",
                "putOff(0, 5); at(0, 24, 0) = UNKNOWN; at(0, -1, 0) = UNKNOWN; at(0, MIN, 1) = UNKNOWN",
                "train(); train(); train(); train(); at(4, 23, 1) = 0; at(5, 0, 0) = UNKNOWN");
        says("11: OUTSIDE; STATE: DARK (2 alone)",
                "train(); run(0, 0, 0, -400); at(0, 0, -1) = OUTSIDE; at(0, 0, 3) = OUTSIDE; at(0, 0, MIN) = OUTSIDE; at(0, 0, MAX) = OUTSIDE",
                "at(0, 0, 0) = 0; at(0, 0, 1) = -400; at(0, 0, 2) = STATE; at(0, 1, 0) = NONE; at(0, 1, 1) = 0; at(0, 1, 2) = STATE",
                "station(0, 0); at(0, 0, 2) = 0; at(0, 0, 1) = -400; at(0, 1, 2) = 0; set(0, false); at(0, 0, 2) = STATE; at(0, 0, 1) = -400");
    }

    private static void between() {
        says("between two neighbours: the VOLTS at a, at b, just within, at the LOAD and beside it",
                "rule(1, 10); station(0, 20); station(0, 60); train(); run(0, 0, 50, 100); feeds(0) = 3",
                "volts(0, 20, *) = 750/1; volts(0, 21, *) = 2999/4; volts(0, 49, *) = 2971/4; volts(0, 50, *) = 1485/2; volts(0, 51, *) = 2973/4",
                "volts(0, 59, *) = 2997/4; volts(0, 60, *) = 750/1; volts(0, 61, *) = 750/1; volts(0, 19, *) = 750/1; volts(0, 0, *) = 750/1; volts(0, 100, *) = 750/1",
                "gives(0, 0, *) = 25/1; gives(0, 1, *) = 75/1");
        says("only LOADS between them count, and only their own neighbour's share",
                "rule(1, 10); station(0, 20); station(0, 60); station(0, 80); train(); train(); train(); train()",
                "run(0, 0, 50, 100); run(1, 0, 70, 40); run(2, 0, 10, 10); run(3, 0, 90, 20); feeds(0) = 7",
                "volts(0, 40, *) = 745/1; volts(0, 50, *) = 1485/2; volts(0, 60, *) = 750/1; volts(0, 65, *) = 749/1; volts(0, 70, *) = 748/1",
                "volts(0, 0, *) = 749/1; volts(0, 100, *) = 748/1; gives(0, 0, *) = 35/1; gives(0, 1, *) = 95/1; gives(0, 2, *) = 40/1");
        says("LOADS at a or b are not between them",
                "rule(1, 10); station(0, 20); station(0, 60); train(); train(); run(0, 0, 20, 300); run(1, 0, 60, 200)",
                "feeds(0) = 3; gives(0, 0, *) = 300/1; gives(0, 1, *) = 200/1; volts(0, 40, *) = 750/1; volts(0, 0, *) = 750/1; volts(0, 100, *) = 750/1",
                "run(0, 1, 21, 200); run(1, 1, 59, 200); feeds(1) = 3; gives(1, 0, *) = 200/1; gives(1, 1, *) = 200/1; volts(1, 40, *) = 748/1",
                "run(0, 2, 60, 7); feeds(2) = 2; gives(2, 0, *) = 0/1; gives(2, 1, *) = 7/1; volts(2, 0, *) = 750/1");
        says("neighbours are those of the set: one that is OUT is none",
                "rule(1, 10); station(0, 0); station(0, 50); station(0, 100); train(); run(0, 0, 50, 100); feeds(0) = 2; gives(0, 1, *) = 100/1",
                "set(1, false); feeds(0) = 5; gives(0, 0, *) = 50/1; gives(0, 1, *) = 0/1; gives(0, 2, *) = 50/1; volts(0, 50, *) = 725/1",
                "set(0, false); feeds(0) = 4; gives(0, 2, *) = 100/1; volts(0, 50, *) = 700/1; volts(0, 0, *) = 700/1");
        says("LOADS of a TICK: all TRAINS that are there, those at one place together",
                "rule(1, 10); station(0, 0); station(0, 100); train(); train(); train(); train(); train()",
                "run(0, 3, 50, 100); run(1, 3, 50, 40); run(2, 3, 50, -30); run(3, 3, 50, 0); run(4, 4, 50, 400)",
                "gives(3, 0, *) = 55/1; gives(3, 1, *) = 55/1; volts(3, 50, *) = 1445/2; at(2, 3, 2) = -30; gives(4, 0, *) = 200/1; gives(5, 0, *) = 0/1");
    }

    private static void beyond() {
        says("beyond the last on the right: at a, just beyond it, at the LOAD and beside it",
                "rule(1, 10); station(0, 20); station(0, 80); train(); run(0, 0, 90, 100); feeds(0) = 2; gives(0, 1, *) = 100/1",
                "volts(0, 80, *) = 750/1; volts(0, 81, *) = 749/1; volts(0, 89, *) = 741/1; volts(0, 90, *) = 740/1; volts(0, 91, *) = 740/1; volts(0, 100, *) = 740/1",
                "volts(0, 79, *) = 750/1; volts(0, 20, *) = 750/1; volts(0, 0, *) = 750/1");
        says("beyond the last on the left",
                "rule(1, 10); station(0, 20); station(0, 80); train(); run(0, 0, 10, 100); feeds(0) = 1; gives(0, 0, *) = 100/1",
                "volts(0, 20, *) = 750/1; volts(0, 19, *) = 749/1; volts(0, 11, *) = 741/1; volts(0, 10, *) = 740/1; volts(0, 9, *) = 740/1; volts(0, 0, *) = 740/1",
                "volts(0, 21, *) = 750/1; volts(0, 80, *) = 750/1; volts(0, 100, *) = 750/1");
        says("LOADS beyond on one side are nothing to the other",
                "rule(1, 10); station(0, 50); train(); train(); run(0, 0, 40, 100); run(1, 0, 80, 200); gives(0, 0, *) = 300/1",
                "volts(0, 0, *) = 740/1; volts(0, 45, *) = 745/1; volts(0, 50, *) = 750/1; volts(0, 60, *) = 730/1; volts(0, 100, *) = 690/1");
        says("the ends of the line: LOADS at 0 and at LONG",
                "rule(0, 200); rule(1, 20); station(0, 100); train(); train(); run(0, 0, 0, 400); run(1, 0, 200, 100)",
                "volts(0, 0, *) = -50/1; volts(0, 200, *) = 550/1; gives(0, 0, *) = 500/1; lowest(*) = -50/1; lowest(3) = 0");
    }

    private static void setsThatFeed() {
        says("one of the set gives 0, another has just V: the first set as a number of bits",
                "station(0, 0); station(0, 50); station(0, 100); train(); train(); train(); run(0, 0, 25, 100); run(1, 0, 75, -100); run(2, 0, 100, 50)",
                "feeds(0) = 1; volts(0, 50, *) = 750/1; volts(0, 100, *) = 750/1; gives(0, 0, *) = 50/1; gives(0, 1, *) = 0/1; gives(0, 2, *) = 0/1",
                "run(2, 0, 100, 51); feeds(0) = 5; volts(0, 50, *) = 750/1; gives(0, 1, *) = 0/1; gives(0, 2, *) = 1/1",
                "run(0, 0, 25, 101); feeds(0) = 7; gives(0, 1, *) = 1/2; run(0, 0, 25, 100); run(1, 0, 75, -101)",
                "feeds(0) = 5; gives(0, 0, *) = 199/4; gives(0, 1, *) = 0/1; gives(0, 2, *) = 1/4; volts(0, 50, *) = 60001/80");
        says("nothing is pulled: the first STATION that is IN",
                "station(0, 100); station(0, 0); station(0, 50); station(0, 25); station(0, 75); feeds(0) = 1; feeds(23) = 1",
                "set(0, false); feeds(0) = 2; set(1, false); set(2, false); set(3, false); feeds(0) = 16; set(3, true); feeds(0) = 8",
                "train(); run(0, 0, 50, 0); feeds(0) = 8; gives(0, 3, *) = 0/1; volts(0, 50, *) = 750/1");
        says("all of five FEED",
                "station(0, 100); station(0, 0); station(0, 50); station(0, 25); station(0, 75); train(); train(); train(); train(); train()",
                "run(0, 0, 10, 1); run(1, 0, 30, 1); run(2, 0, 60, 1); run(3, 0, 80, 1); feeds(0) = 31",
                "run(4, 0, 100, 400); feeds(0) = 31; gives(0, 0, *) = 2001/5; run(4, 0, 100, -1); feeds(0) = 30; run(3, 0, 80, 5); feeds(0) = 30; run(3, 0, 80, 6); feeds(0) = 31");
        says("one that would take is left out, on the left, too",
                "rule(1, 10); station(0, 20); station(0, 60); train(); train(); run(0, 0, 50, 100); run(1, 0, 10, -40); feeds(0) = 2",
                "gives(0, 0, *) = 0/1; gives(0, 1, *) = 60/1; volts(0, 10, *) = 760/1; volts(0, 20, *) = 756/1; volts(0, 50, *) = 744/1",
                "run(1, 0, 10, -25); feeds(0) = 2; volts(0, 20, *) = 750/1; run(1, 0, 10, -24); feeds(0) = 3; gives(0, 0, *) = 1/1");
        says("gives 0 or more: -1 is too little, with 0 it need not FEED, 1 is enough",
                "station(0, 0); station(0, 1); train(); train(); run(0, 0, 0, 5); run(1, 0, 1, -1); feeds(0) = 1; gives(0, 0, *) = 4/1; gives(0, 1, *) = 0/1",
                "volts(0, 1, *) = 750001/1000; run(1, 0, 1, 0); feeds(0) = 1; run(1, 0, 1, 1); feeds(0) = 3; gives(0, 1, *) = 1/1",
                "run(0, 0, 0, 0); feeds(0) = 2; gives(0, 0, *) = 0/1; gives(0, 1, *) = 1/1");
        says("as much given back as pulled: only who has just V",
                "station(0, 90); station(0, 10); station(0, 50); train(); train(); run(0, 0, 20, 60); run(1, 0, 80, -60)",
                "feeds(0) = 2; gives(0, 1, *) = 0/1; volts(0, 90, *) = 3768/5; volts(0, 20, *) = 750/1; volts(0, 0, *) = 750/1");
        says("as much given back as pulled: of those that have just V the first",
                "station(0, 80); station(0, 90); station(0, 10); train(); train(); run(0, 0, 70, 60); run(1, 0, 20, -60); feeds(0) = 1; gives(0, 0, *) = 0/1",
                "set(0, false); feeds(0) = 2; volts(0, 10, *) = 753/1; set(0, true); set(1, false); feeds(0) = 1; set(0, false); feeds(0) = 4; volts(0, 90, *) = 747/1");
        says("as much given back as pulled: the first STATION has more than V",
                "station(0, 10); station(0, 80); station(0, 90); train(); train(); run(0, 0, 70, 60); run(1, 0, 20, -60); feeds(0) = 2; gives(0, 1, *) = 0/1; volts(0, 10, *) = 753/1");
    }

    private static void takenBack() {
        says("as long as no set FEEDS: as much given back as pulled is not too much",
                "station(0, 0); train(); train(); run(0, 0, 10, 100); run(1, 0, 10, -100); at(1, 0, 2) = -100; run(1, 0, 10, -101); at(1, 0, 2) = -50",
                "at(0, 0, 2) = 100; at(1, 0, 1) = -101; volts(0, 10, *) = 1499/2");
        says("half is cut, so -1 becomes 0",
                "station(0, 0); train(); run(0, 0, 10, -1); at(0, 0, 2) = 0; run(0, 1, 10, -400); at(0, 1, 2) = 0; train(); run(1, 2, 0, 1)",
                "run(0, 2, 10, -1); at(0, 2, 2) = -1; run(0, 2, 10, -2); at(0, 2, 2) = -1; run(0, 2, 10, -3); at(0, 2, 2) = -1; run(0, 2, 10, -4); at(0, 2, 2) = -1",
                "run(0, 2, 10, -400); at(0, 2, 2) = -1; run(1, 2, 0, 2); at(0, 2, 2) = -1; run(1, 2, 0, 3); at(0, 2, 2) = -3; run(0, 2, 10, -399); at(0, 2, 2) = -3");
        says("all TRAINS give back all they may, and nothing is pulled",
                "station(0, 0); station(0, 100); train(); train(); train(); train(); train(); run(0, 0, 10, -400); run(1, 0, 30, -400); run(2, 0, 50, -400)",
                "run(3, 0, 70, -400); run(4, 0, 90, -400); run(0, 1, 100, 10); feeds(1) = 2; feeds(0) = 1; volts(0, 50, *) = 750/1",
                "at(0, 0, 2) = 0; at(1, 0, 2) = 0; at(2, 0, 2) = 0; at(3, 0, 2) = 0; at(4, 0, 2) = 0; gives(0, 0, *) = 0/1; used(0) = 7500; used(4) = 0");
        says("no set FEEDS: the one that gives back most, of like ones the first",
                "station(0, 0); train(); train(); train(); run(0, 0, 10, -400); run(1, 0, 20, -400); run(2, 0, 0, 400)",
                "at(0, 0, 2) = -200; at(1, 0, 2) = -200; run(2, 0, 0, 399); at(0, 0, 2) = -100; at(1, 0, 2) = -200",
                "run(1, 0, 20, -399); at(0, 0, 2) = -200; at(1, 0, 2) = -199; run(1, 0, 20, -199); at(0, 0, 2) = -200; at(1, 0, 2) = -199");
        says("no set FEEDS: the one that gives back most still, turn by turn",
                "station(0, 0); train(); train(); train(); run(0, 0, 10, 100); run(1, 0, 20, -300); run(2, 0, 30, -200); at(1, 0, 2) = -37; at(2, 0, 2) = -50");
        says("the VOLTS at some TRAIN's place are above TOP: as high as TOP they may be",
                "rule(1, 10); station(0, 0); train(); train(); run(0, 0, 0, 400); run(1, 0, 50, -300); volts(0, 50, *) = 900/1; at(1, 0, 2) = -300",
                "run(1, 0, 50, -301); at(1, 0, 2) = -150; volts(0, 50, *) = 825/1; rule(3, 825); at(1, 0, 2) = -150; rule(3, 824); at(1, 0, 2) = -75",
                "rule(3, 750); at(1, 0, 2) = 0; volts(0, 50, *) = 750/1; at(0, 0, 2) = 400; rule(3, 3000); at(1, 0, 2) = -301; volts(0, 50, *) = 1801/2");
        says("the one at which the VOLTS are highest, of like ones the first, of those that give back still",
                "rule(1, 10); station(0, 50); train(); train(); train(); train(); run(2, 0, 50, 400); run(3, 0, 50, 200)",
                "run(0, 0, 60, -300); run(1, 0, 60, -300); rule(3, 810); at(0, 0, 2) = -300; rule(3, 809); at(0, 0, 2) = -150; at(1, 0, 2) = -300",
                "run(0, 0, 100, 0); rule(3, 779); at(0, 0, 2) = 0; at(1, 0, 2) = -150; run(0, 0, 60, 1); rule(3, 780); at(1, 0, 2) = -300; at(0, 0, 2) = 1",
                "run(0, 0, 60, -1); at(0, 0, 2) = 0; at(1, 0, 2) = -300; run(0, 0, 20, -101); at(0, 0, 2) = -50; at(1, 0, 2) = -300");
        says("the highest is no TRAIN that pulls at the same place, and not the last one",
                "rule(1, 10); rule(3, 780); station(0, 50); train(); train(); train(); run(2, 0, 50, 400); run(0, 0, 60, 1); run(1, 0, 60, -301); at(1, 0, 2) = -301",
                "run(1, 0, 60, -302); at(1, 0, 2) = -151; at(0, 0, 2) = 1; rule(3, 799); run(0, 1, 50, 400); run(1, 1, 90, -100); run(2, 1, 60, -100)",
                "at(1, 1, 2) = -50; at(2, 1, 2) = -100; at(0, 1, 2) = 400; rule(3, 800); at(1, 1, 2) = -100");
        says("TRAINS of other TICKS take nothing back",
                "station(0, 0); train(); train(); run(0, 0, 10, -100); run(1, 1, 10, 100); at(0, 0, 2) = 0; putOff(0, 1); at(0, 1, 2) = -100; at(1, 1, 2) = 100");
    }

    private static void feedsVoltsGives() {
        says("12: UNKNOWN; STATE: DARK",
                "feeds(0) = STATE; station(0, 0); feeds(-1) = UNKNOWN; feeds(24) = UNKNOWN; feeds(MIN) = UNKNOWN; feeds(MAX) = UNKNOWN; feeds(0) = 1; feeds(23) = 1",
                "set(0, false); feeds(0) = STATE; feeds(23) = STATE; feeds(24) = UNKNOWN");
        says("13: LOST: UNKNOWN: TICK, place; OUTSIDE; DARK",
                "volts(0, 0, 0) = LOST; station(0, 0); volts(-1, 0, 0) = LOST; volts(24, 0, 0) = LOST; volts(MIN, 0, 0) = LOST; volts(MAX, 0, 0) = LOST",
                "volts(0, -1, 0) = LOST; volts(0, 101, 0) = LOST; volts(0, MIN, 0) = LOST; volts(0, MAX, 0) = LOST",
                "volts(0, 0, -1) = LOST; volts(0, 0, 2) = LOST; volts(0, 0, MIN) = LOST; volts(0, 0, MAX) = LOST",
                "volts(0, 0, *) = 750/1; volts(23, 100, *) = 750/1; set(0, false); volts(0, 0, 0) = LOST; volts(0, 0, 1) = LOST");
        says("14: LOST: UNKNOWN; OUTSIDE; DARK",
                "gives(0, 0, 0) = LOST; station(0, 0); gives(-1, 0, 0) = LOST; gives(24, 0, 0) = LOST; gives(MIN, 0, 0) = LOST; gives(MAX, 0, 0) = LOST",
                "gives(0, -1, 0) = LOST; gives(0, 1, 0) = LOST; gives(0, MIN, 0) = LOST; gives(0, MAX, 0) = LOST",
                "gives(0, 0, -1) = LOST; gives(0, 0, 2) = LOST; gives(0, 0, MIN) = LOST; gives(0, 0, MAX) = LOST; gives(0, 0, *) = 0/1; gives(23, 0, *) = 0/1",
                "station(0, 1); station(0, 2); station(0, 3); station(0, 4); gives(0, 4, *) = 0/1; gives(0, 5, 0) = LOST");
        says("14: 0 by 1, if it does not FEED",
                "station(0, 0); station(0, 50); train(); run(0, 23, 0, 7); gives(23, 0, *) = 7/1; gives(23, 1, *) = 0/1; gives(0, 1, *) = 0/1; gives(0, 0, *) = 0/1",
                "set(0, false); gives(23, 0, *) = 0/1; gives(23, 1, *) = 7/1; set(1, false); gives(23, 0, 1) = LOST; gives(23, 1, 0) = LOST");
    }

    private static void shares() {
        says("shares in least terms, the lower number above 0, also below 0",
                "rule(0, 200); rule(4, 1); rule(2, 100); rule(1, 7); station(0, 0); train(); run(0, 0, 199, 399)",
                "volts(0, 199, *) = -455807/1000; lowest(*) = -455807/1000; volts(0, 1, *) = 97207/1000; volts(0, 200, *) = -455807/1000",
                "run(0, 0, 200, 400); volts(0, 200, *) = -460/1; volts(0, 100, *) = -180/1; volts(0, 1, *) = 486/5");
        says("a share of 0 is 0 by 1",
                "rule(0, 200); rule(4, 1); rule(2, 100); rule(1, 5); station(0, 0); train(); run(0, 0, 200, 100)",
                "volts(0, 200, *) = 0/1; lowest(*) = 0/1; used(0) = 0; most(*) = 100/1; safe() = 0");
        says("the most there can be: LONG 200, R 20, five TRAINS of 400",
                "rule(0, 200); rule(1, 20); rule(4, 1); rule(2, 100); station(0, 0); train(); train(); train(); train(); train()",
                "run(0, 0, 200, 400); run(1, 0, 200, 400); run(2, 0, 200, 400); run(3, 0, 200, 400); run(4, 0, 200, 400)",
                "volts(0, 200, *) = -7900/1; volts(0, 1, *) = 60/1; gives(0, 0, *) = 2000/1; most(*) = 2000/1; used(4) = -3160000; given(0) = 200000",
                "rule(3, 3000); rule(2, 2000); volts(0, 200, *) = -6000/1; given(0) = 4000000; station(0, 199); gives(0, 1, *) = 2000/1; volts(0, 200, *) = 1960/1",
                "run(0, 0, 100, 400); gives(0, 0, *) = 39600/199; gives(0, 1, *) = 358400/199");
    }

    // ---- 3 the day

    private static void lowest() {
        says("15: LOST: OUTSIDE; DARK; no TRAIN is at any TICK",
                "lowest(0) = LOST; station(0, 0); lowest(0) = LOST; lowest(1) = LOST; lowest(2) = LOST; lowest(3) = LOST; train(); lowest(0) = LOST",
                "run(0, 23, 0, 0); lowest(-1) = LOST; lowest(4) = LOST; lowest(MIN) = LOST; lowest(MAX) = LOST; lowest(*) = 750/1; lowest(2) = 23; lowest(3) = 0",
                "putOff(0, 1); lowest(0) = LOST; lowest(3) = LOST; putOff(0, 0); set(0, false); lowest(0) = LOST; lowest(2) = LOST");
        says("of several the first TICK, then the TRAIN of the least number",
                "rule(1, 10); station(0, 50); train(); train(); train(); run(2, 0, 60, 100); run(1, 5, 40, 100); run(0, 23, 60, 100)",
                "lowest(*) = 740/1; lowest(2) = 0; lowest(3) = 2; run(1, 0, 40, 100); lowest(3) = 1; run(0, 0, 70, 0); lowest(3) = 0; run(0, 0, 59, 0); lowest(3) = 1",
                "putOff(2, 1); putOff(1, 1); lowest(2) = 1; lowest(3) = 1; run(0, 23, 60, 101); lowest(2) = 23; lowest(3) = 0; lowest(*) = 7399/10");
        says("the least over all TICKS, also below 0, whatever was looked at before",
                "rule(0, 200); rule(4, 1); rule(2, 100); rule(1, 20); station(0, 0); train(); run(0, 0, 100, 50); run(0, 5, 100, 51); run(0, 23, 200, 400)",
                "lowest(*) = -1500/1; lowest(2) = 23; most(*) = 400/1; lowest(2) = 23; run(0, 23, -1, 0); lowest(*) = -2/1; lowest(2) = 5; most(*) = 51/1; lowest(2) = 5",
                "peak(1, *) = 51/1; best(0) = 100; lowest(2) = 5; run(0, 5, -1, 0); lowest(*) = 0/1; lowest(2) = 0; most(*) = 50/1");
        says("the VOLTS are those SOLVED",
                "rule(1, 10); station(0, 0); train(); train(); run(0, 0, 100, 100); run(1, 0, 100, -100); lowest(*) = 750/1; run(1, 0, 100, -101); lowest(*) = 700/1");
    }

    private static void safe() {
        says("16: LOWEST is LOW or more",
                "rule(4, 750); station(0, 0); train(); run(0, 23, 1, 0); safe() = 1; run(0, 23, 1, 1); safe() = 0; rule(4, 749); safe() = 1",
                "run(0, 0, 100, 10); safe() = 1; run(0, 0, 100, 11); safe() = 0; run(0, 0, -1, 0); safe() = 1; run(0, 0, 1, -400); safe() = 1");
        says("16: or there is no TRAIN at any TICK; STATE: DARK",
                "safe() = STATE; station(0, 0); rule(4, 750); safe() = 1; train(); safe() = 1; run(0, 19, 1, 400); safe() = 0; putOff(0, 4); safe() = 0",
                "putOff(0, 5); safe() = 1; set(0, false); safe() = STATE");
    }

    private static void firstOut() {
        says("17: the first STATION that is IN, without which the day is not SAFE; as LOW it is SAFE",
                "rule(1, 20); station(0, 0); station(0, 100); train(); run(0, 23, 100, 125); firstOut() = NONE; run(0, 23, 100, 126); firstOut() = 1",
                "run(0, 0, 0, 125); firstOut() = 1; run(0, 0, 0, 126); firstOut() = 0; set(0, false); firstOut() = 1; set(0, true); about(0, 2) = 1; about(1, 2) = 1");
        says("17: or DARK",
                "firstOut() = STATE; station(0, 0); firstOut() = 0; station(0, 1); firstOut() = NONE; set(0, false); firstOut() = 1; set(1, false); firstOut() = STATE",
                "station(0, 2); station(0, 3); station(0, 4); set(2, false); set(3, false); firstOut() = 4; many(1) = 1");
        says("17: NONE: there is none, of five STATIONS",
                "station(0, 0); station(0, 1); station(0, 2); station(0, 3); station(0, 4); firstOut() = NONE; rule(1, 20); rule(4, 750); train(); run(0, 23, 4, 1); firstOut() = 4");
        says("17: one that is OUT is not left out once more",
                "rule(1, 20); rule(4, 750); station(0, 0); station(0, 1); station(0, 2); set(0, false); train(); run(0, 0, 1, 1); firstOut() = 1; run(0, 0, 2, 1); firstOut() = 2",
                "set(0, true); firstOut() = 2; run(0, 0, 50, 1); firstOut() = 0");
    }

    private static void most() {
        says("18: LOST: OUTSIDE; DARK",
                "most(0) = LOST; most(1) = LOST; station(0, 0); most(-1) = LOST; most(2) = LOST; most(MIN) = LOST; most(MAX) = LOST; most(*) = 0/1",
                "set(0, false); most(0) = LOST; most(1) = LOST");
        says("the most that one STATION gives at any TICK, the first and the last",
                "station(0, 0); station(0, 3); train(); train(); most(*) = 0/1; run(0, 0, 1, 100); most(*) = 200/3; run(1, 23, 2, 101); most(*) = 202/3",
                "run(1, 0, 1, 1); most(*) = 202/3; run(1, 0, 1, 2); most(*) = 68/1; putOff(1, 1); most(*) = 200/3; run(0, 3, 1, -400); most(*) = 200/3");
    }

    private static void shorted() {
        says("19: UNKNOWN: place; OUTSIDE: f (1 .. 100000); STATE: DARK",
                "shorted(0, 1) = STATE; station(0, 0); shorted(-1, 1) = UNKNOWN; shorted(101, 1) = UNKNOWN; shorted(MIN, 1) = UNKNOWN; shorted(MAX, 1) = UNKNOWN",
                "shorted(0, 0) = OUTSIDE; shorted(0, -1) = OUTSIDE; shorted(0, 100001) = OUTSIDE; shorted(0, MIN) = OUTSIDE; shorted(0, MAX) = OUTSIDE",
                "shorted(0, 1) = 1; shorted(100, 1) = 1; shorted(0, 100000) = 1; shorted(100, 100000) = 1; set(0, false); shorted(100, 100000) = STATE");
        says("19: at a STATION, just beside it, at the ends; no TRAIN counts",
                "station(0, 60); station(0, 20); station(0, 80); train(); run(0, 0, 60, -400); run(0, 1, 60, 400)",
                "shorted(0, 1) = 2; shorted(19, 1) = 2; shorted(20, 1) = 2; shorted(21, 1) = 3; shorted(59, 1) = 3; shorted(60, 1) = 1; shorted(61, 1) = 5",
                "shorted(79, 1) = 5; shorted(80, 1) = 4; shorted(81, 1) = 4; shorted(100, 1) = 4; set(0, false); shorted(60, 1) = 6");
        says("A FAULT: LOADS are one, alone, whatever was looked at before",
                "station(0, 0); station(0, 100); train(); train(); train(); run(1, 23, 50, 400); run(2, 23, 50, 400); feeds(23) = 3; shorted(0, 1) = 1; shorted(100, 1) = 2",
                "right(6000) = 0; right(5999) = 2; feeds(23) = 3; shorted(0, 100000) = 1");
    }

    private static void right() {
        says("20: OUTSIDE; STATE: DARK",
                "right(1) = STATE; station(0, 0); right(0) = OUTSIDE; right(-1) = OUTSIDE; right(100001) = OUTSIDE; right(MIN) = OUTSIDE; right(MAX) = OUTSIDE",
                "trip(0, 1); right(1) = 0; trip(0, 100000); right(100000) = 0; right(99999) = 2; set(0, false); right(1) = STATE");
        says("PARTED: its SWITCH or more, at each place: the last one",
                "station(0, 0); station(0, 100); trip(0, 1); trip(1, 101); right(100) = 2; trip(1, 100); right(100) = 0; trip(1, 100000); right(100000) = 0");
        says("PARTED: its SWITCH or more, at each place: the first one",
                "station(0, 0); station(0, 100); trip(0, 101); trip(1, 1); right(100) = 2; trip(0, 100); right(100) = 0; set(0, false); right(1) = 0; trip(1, 2); right(1) = 2");
        says("PARTED: at each place: one in the middle, one beyond the last STATION",
                "rule(0, 200); station(0, 0); station(0, 100); trip(0, 50); trip(1, 50); right(100) = 0; right(99) = 2; trip(1, 51); right(100) = 0; right(99) = 2",
                "trip(0, 1); right(52) = 0; right(51) = 2");
        says("a TRAIN trips: a STATION gives its SWITCH or more, the first TICK and the last",
                "station(0, 0); station(0, 2); train(); run(0, 0, 1, 400); trip(0, 200); right(100000) = 1; trip(0, 201); right(100000) = 0; trip(1, 200); right(1) = 1; trip(1, 201)",
                "run(0, 0, -1, 0); run(0, 23, 2, 201); right(100000) = 1; run(0, 23, 2, 200); right(100000) = 0; right(1) = 2; run(0, 23, 2, -400); right(100000) = 0",
                "run(0, 23, 2, 400); putOff(0, 1); right(100000) = 0; putOff(0, 0); set(1, false); trip(0, 400); right(100000) = 1; trip(0, 401); right(100000) = 0");
        says("while it FEEDS: a SWITCH of 0",
                "station(0, 0); station(0, 100); trip(1, 0); right(3000) = 0; right(2999) = 2; trip(0, 0); right(1) = 1; set(0, false); right(1) = 1; trip(1, 1); right(1) = 0");
    }

    private static void peak() {
        says("21: LOST: OUTSIDE: k (1 .. 2), what; UNKNOWN: a TRAIN; DARK",
                "peak(1, 0) = LOST; station(0, 0); peak(0, 0) = LOST; peak(3, 0) = LOST; peak(MIN, 0) = LOST; peak(MAX, 0) = LOST; peak(-1, 0) = LOST",
                "peak(1, *) = 0/1; peak(2, *) = 0/1; peak(1, -1) = LOST; peak(1, 2) = LOST; peak(1, 9) = LOST; peak(1, MIN) = LOST; peak(1, MAX) = LOST",
                "peak(1, 10) = LOST; train(); peak(1, 10) = 0; peak(1, 11) = LOST; peak(0, 10) = LOST; peak(3, 10) = LOST",
                "set(0, false); peak(1, 0) = LOST; peak(2, 1) = LOST; peak(1, 10) = LOST");
        says("21: of five TRAINS, the first and the last",
                "station(0, 0); train(); train(); train(); train(); train(); run(4, 0, 0, 100); run(0, 0, 0, 100); run(0, 1, 0, 50); peak(1, *) = 100/1",
                "peak(1, 10) = 1; peak(1, 11) = 0; peak(1, 12) = 0; peak(1, 13) = 0; peak(1, 14) = 0; peak(1, 15) = LOST; peak(1, 9) = LOST",
                "peak(2, *) = 100/1; peak(2, 10) = 0; peak(2, 11) = 0; peak(2, 13) = 0; peak(2, 14) = 2; peak(2, 15) = LOST");
    }

    private static void peakRows() {
        says("of several ways the first as a row by TRAINS",
                "station(0, 0); train(); train(); run(0, 0, 0, 100); run(1, 0, 0, 100); peak(1, *) = 100/1; peak(1, 10) = 0; peak(1, 11) = 1",
                "peak(2, *) = 100/1; peak(2, 10) = 0; peak(2, 11) = 1; run(1, 0, -1, 0); peak(1, 10) = 0; peak(1, 11) = 0; run(1, 1, 0, 50); peak(2, *) = 100/1; peak(2, 11) = 0");
        says("three at once: k 1 leaves two together, k 2 parts them all",
                "station(0, 0); train(); train(); train(); run(0, 0, 0, 3); run(1, 0, 0, 4); run(2, 0, 0, 5)",
                "peak(1, *) = 7/1; peak(1, 10) = 0; peak(1, 11) = 0; peak(1, 12) = 1; peak(2, *) = 5/1; peak(2, 10) = 0; peak(2, 11) = 1; peak(2, 12) = 2");
        says("in place of as they are; what would be beyond 23 is left out",
                "station(0, 0); train(); run(0, 23, 0, 9); run(0, 22, 0, 8); run(0, 21, 0, 7); putOff(0, 5); most(*) = 0/1",
                "peak(1, *) = 8/1; peak(1, 10) = 1; peak(2, *) = 7/1; peak(2, 10) = 2; putOff(0, 0) = 5; peak(1, 10) = 1; most(*) = 9/1");
        says("what is given back counts as it is SOLVED on that way",
                "station(0, 0); train(); train(); run(0, 0, 10, -100); run(1, 1, 10, 100); peak(1, *) = 0/1; peak(1, 10) = 1; peak(1, 11) = 0; most(*) = 100/1",
                "run(0, 0, 10, -101); peak(1, *) = 50/1; peak(1, 10) = 1; run(0, 0, 10, 0); peak(1, *) = 100/1; peak(1, 10) = 0");
        says("21, 24: what was answered before holds only until the line is told otherwise",
                "station(0, 0); train(); run(0, 0, 50, 100); best(0) = 50; peak(1, *) = 100/1; sheet(0, 1, 2); put(0, 0, 60); put(0, 1, 200); best(0) = 50",
                "runs(0, 0, 1, 0, 1) = 1; best(0) = 60; peak(1, *) = 200/1; run(0, 1, 0, 300); peak(1, *) = 300/1; peak(2, *) = 300/1; runs(0, 0, 1, 2, 0) = 0",
                "best(0) = LOST; peak(1, *) = 0/1; peak(2, *) = 0/1");
    }

    private static void used() {
        says("22: LOST: UNKNOWN; DARK",
                "used(0) = LOST; train(); used(0) = LOST; station(0, 0); used(-1) = LOST; used(1) = LOST; used(MIN) = LOST; used(MAX) = LOST; used(0) = 0",
                "train(); train(); train(); train(); used(4) = 0; used(5) = LOST; set(0, false); used(0) = LOST; used(4) = LOST");
        says("each cut to a whole number, not the sum",
                "station(0, 0); train(); run(0, 0, 100, 5); used(0) = 3747; run(0, 23, 100, 5); used(0) = 7494; putOff(0, 1); used(0) = 3747");
        says("cut towards 0, where it is below",
                "station(0, 0); train(); train(); run(1, 0, 0, 400); run(0, 0, 50, -3); used(0) = -2250; run(0, 0, 100, -5); used(0) = -3752; used(1) = 300000",
                "rule(0, 200); rule(4, 1); rule(2, 100); rule(1, 7); run(0, 0, 199, 399); run(1, 0, -1, 0); used(0) = -181866");
        says("AMPERES as they have become",
                "station(0, 0); train(); run(0, 0, 50, -400); used(0) = 0; train(); run(1, 0, 0, 2); used(0) = -750; used(1) = 1500");
    }

    private static void given() {
        says("23: LOST: UNKNOWN; DARK",
                "given(0) = LOST; station(0, 0); given(-1) = LOST; given(1) = LOST; given(MIN) = LOST; given(MAX) = LOST; given(0) = 0; set(0, false); given(0) = LOST",
                "station(0, 1); station(0, 2); station(0, 3); station(0, 4); given(4) = 0; given(5) = LOST; given(0) = 0");
        says("each cut to a whole number, the first TICK and the last",
                "station(0, 0); station(0, 7); train(); run(0, 0, 2, 1); given(0) = 535; given(1) = 214; run(0, 23, 2, 1); given(0) = 1070; given(1) = 428",
                "set(1, false); given(0) = 1500; given(1) = 0; putOff(0, 1); given(0) = 750");
    }

    private static void best() {
        says("24: LOST: OUTSIDE; no TRAIN is at any TICK",
                "best(0) = LOST; train(); best(0) = LOST; best(1) = LOST; best(2) = LOST; run(0, 19, 7, 5); best(-1) = LOST; best(3) = LOST; best(MIN) = LOST; best(MAX) = LOST",
                "best(0) = 7; best(1) = 750; best(2) = 1; putOff(0, 5); best(0) = LOST; best(1) = LOST; putOff(0, 4); best(0) = 7");
        says("24: LOST: there are five STATIONS, be they IN or OUT",
                "train(); run(0, 0, 50, 5); station(0, 0); station(0, 1); station(0, 2); station(0, 3); best(0) = 50; station(0, 4); best(0) = LOST; best(1) = LOST",
                "set(4, false); best(0) = LOST; set(0, false); set(1, false); set(2, false); set(3, false); best(2) = LOST");
        says("24: LOST: no place is free",
                "rule(0, 1); train(); run(0, 0, 0, 5); best(0) = 0; station(0, 0); best(0) = 1; set(0, false); best(0) = 1; best(1) = 149999; best(2) = 200",
                "station(0, 1); best(0) = LOST; best(1) = LOST; rule(0, 2); best(0) = 2; station(0, 2); best(0) = LOST; rule(0, 3); best(0) = 3; station(0, 3); best(0) = LOST",
                "rule(0, 4); best(0) = 4; station(0, 4); rule(0, 5); best(0) = LOST");
        says("the place for which it is highest, of several the first; the ends of the line",
                "train(); train(); run(0, 0, 0, 400); best(0) = 0; run(0, 0, 100, 400); best(0) = 100; best(1) = 750; run(0, 0, 100, 0); best(0) = 0",
                "run(0, 0, 40, 100); run(1, 1, 61, 100); best(0) = 50; best(1) = 7489; best(2) = 10; run(1, 1, 60, 100); best(0) = 50; best(1) = 749",
                "station(0, 50); best(0) = 0; set(0, false); best(0) = 49; best(1) = 7489; best(2) = 10");
        says("NEW is nothing that stays",
                "train(); run(0, 0, 50, 100); best(0) = 50; many(0) = 0; safe() = STATE; station(0, 0); best(0) = 50; many(0) = 1; feeds(0) = 1; lowest(*) = 745/1");
    }

    // ---- sheets, parts

    private static void sheets() {
        says("25: UNKNOWN; SHEETS 0 .. 3",
                "sheet(-1, 0, 1) = UNKNOWN; sheet(4, 0, 1) = UNKNOWN; sheet(MIN, 0, 1) = UNKNOWN; sheet(MAX, 0, 1) = UNKNOWN; sheet(0, 0, 1) = 1; sheet(3, 0, 1) = 1",
                "lose(-1) = UNKNOWN; lose(4) = UNKNOWN; lose(MIN) = UNKNOWN; lose(MAX) = UNKNOWN; lose(0) = 1; lose(3) = 1; lose(1) = 0; lose(2) = 0");
        says("25: OUTSIDE: lane",
                "sheet(0, -1, 1) = OUTSIDE; sheet(0, 3, 1) = OUTSIDE; sheet(0, MIN, 1) = OUTSIDE; sheet(0, MAX, 1) = OUTSIDE; lose(0) = 0",
                "sheet(0, 0, 1) = 1; cell(0, 0, 0) = 0; sheet(0, 1, 1) = 1; cell(0, 0, 1) = 0; sheet(0, 2, 1) = 1; cell(0, 0, 2) = 0");
        says("25: OUTSIDE: n above 60; SIZE: n below 0; a row of 0 .. 60",
                "sheet(0, 0, 61) = OUTSIDE; sheet(0, 0, MAX) = OUTSIDE; sheet(0, 0, -1) = SIZE; sheet(0, 0, MIN) = SIZE; lose(0) = 0",
                "sheet(0, 0, 60) = 1; put(0, 59, 1) = 1; put(0, 60, 1) = INDEX; sheet(0, 0, 61) = OUTSIDE; sheet(0, 0, -1) = SIZE; cell(0, 59, 0) = 1",
                "sheet(0, 0, 0) = 1; put(0, 0, 1) = INDEX; cell(0, 0, 0) = LOST INDEX; lose(0) = 1; lose(0) = 0");
        says("25: a new row: numbers are 0 at first, also where there was one before",
                "sheet(1, 1, 3); put(1, 0, 5); put(1, 2, 7); sheet(1, 1, 3); cell(1, 0, 1) = 0; cell(1, 2, 1) = 0; put(1, 0, 5); lose(1); sheet(1, 1, 3); cell(1, 0, 1) = 0",
                "put(1, 2, 7); sheet(1, 1, 2); cell(1, 2, 1) = LOST INDEX; sheet(1, 1, 3); cell(1, 2, 1) = 0; cell(2, 0, 1) = LOST NULL");
        says("26: a SHEET has nothing: 1; 0: it had nothing",
                "lose(2) = 0; sheet(2, 0, 0); lose(2) = 1; lose(2) = 0; put(2, 0, 0) = NULL; cell(2, 0, 0) = LOST NULL");
    }

    private static void cells() {
        says("27: UNKNOWN; NULL; INDEX",
                "put(-1, 0, 0) = UNKNOWN; put(4, 0, 0) = UNKNOWN; put(MIN, 0, 0) = UNKNOWN; put(MAX, 0, 0) = UNKNOWN; put(0, 0, 0) = NULL; put(3, 0, 0) = NULL",
                "sheet(0, 2, 3); put(0, -1, 9) = INDEX; put(0, 3, 9) = INDEX; put(0, MIN, 9) = INDEX; put(0, MAX, 9) = INDEX; put(0, 0, 7) = 1; put(0, 2, 8) = 1",
                "cell(0, 0, 2) = 7; cell(0, 1, 2) = 0; cell(0, 2, 2) = 8");
        says("28: UNKNOWN, OUTSIDE: lane; CAST, NULL, INDEX",
                "sheet(1, 1, 3); put(1, 2, -9); cell(-1, 0, 1) = LOST; cell(4, 0, 1) = LOST; cell(MIN, 0, 1) = LOST; cell(MAX, 0, 1) = LOST",
                "cell(1, 0, -1) = LOST; cell(1, 0, 3) = LOST; cell(1, 0, MIN) = LOST; cell(1, 0, MAX) = LOST",
                "cell(1, 2, 0) = LOST CAST; cell(1, 2, 2) = LOST CAST; cell(0, 2, 1) = LOST NULL; cell(1, -1, 1) = LOST INDEX; cell(1, 3, 1) = LOST INDEX",
                "cell(1, MIN, 1) = LOST INDEX; cell(1, MAX, 1) = LOST INDEX; cell(1, 0, 1) = 0; cell(1, 2, 1) = -9");
        says("28: CAST, of each LANE",
                "sheet(0, 0, 1); sheet(1, 1, 1); sheet(2, 2, 1); cell(0, 0, 0) = 0; cell(0, 0, 1) = LOST CAST; cell(0, 0, 2) = LOST CAST; cell(1, 0, 0) = LOST CAST",
                "cell(1, 0, 1) = 0; cell(1, 0, 2) = LOST CAST; cell(2, 0, 0) = LOST CAST; cell(2, 0, 1) = LOST CAST; cell(2, 0, 2) = 0");
        says("what comes to a cell is cut to its LANE: bytes",
                "sheet(0, 0, 8); put(0, 0, 127); put(0, 1, 128); put(0, 2, -128); put(0, 3, -129); put(0, 4, 255); put(0, 5, 256); put(0, 6, MAX); put(0, 7, MIN)",
                "cell(0, 0, 0) = 127; cell(0, 1, 0) = -128; cell(0, 2, 0) = -128; cell(0, 3, 0) = 127; cell(0, 4, 0) = -1; cell(0, 5, 0) = 0; cell(0, 6, 0) = -1; cell(0, 7, 0) = 0");
        says("what comes to a cell is cut to its LANE: shorts",
                "sheet(0, 1, 8); put(0, 0, 32767); put(0, 1, 32768); put(0, 2, -32768); put(0, 3, -32769); put(0, 4, 65535); put(0, 5, 65536); put(0, 6, MAX); put(0, 7, MIN)",
                "cell(0, 0, 1) = 32767; cell(0, 1, 1) = -32768; cell(0, 2, 1) = -32768; cell(0, 3, 1) = 32767; cell(0, 4, 1) = -1; cell(0, 5, 1) = 0; cell(0, 6, 1) = -1; cell(0, 7, 1) = 0");
        says("what comes to a cell is cut to its LANE: ints",
                "sheet(0, 2, 4); put(0, 0, MAX); put(0, 1, MIN); put(0, 2, 65536); put(0, 3, -1)",
                "cell(0, 0, 2) = MAX; cell(0, 1, 2) = MIN; cell(0, 2, 2) = 65536; cell(0, 3, 2) = -1");
    }

    private static void telling() {
        says("29: of each kind, IN and OUT, at the ends of the line",
                "station(0, 0); station(1, 100); station(2, 99); tell(0) = 0; tell(1) = 1100; tell(2) = 1198; set(0, false); set(1, false); set(2, false)",
                "tell(0) = 0; tell(1) = 100; tell(2) = 198");
        says("29: bodies leave their number as they begin", "station(1, 5); tell(0) = 1005; trace() = 63; tell(0) = 1005; trace() = 60606");
        says("29: WORKS: HOUSE's, then POST's (HOUSE's left out)", "station(2, 5); tell(0) = 1010; trace() = 91327");
        says("30: by a lent body: its number; WORKS have their own",
                "station(2, 0); station(1, 1); station(0, 2); station(2, 3); station(0, 4); call(0) = 50; trace() = 5; call(1) = 1; trace() = 159; call(2) = 2; trace() = 4933",
                "call(3) = 50; trace() = 152928; call(4) = 4; trace() = 4740772; set(0, false); call(0) = 50");
        says("TRACE is an int that wraps",
                "station(2, 0); tell(0); trace() = 91327; tell(0) = 1000; trace() = -1556852226; tell(0); trace() = 1822459837; tell(0); trace() = -1787968004; trace() = -1787968004");
        says("29, 30: a refused call leaves nothing in TRACE",
                "station(0, 0); call(0); trace() = 4; tell(1) = UNKNOWN; trace() = 4; call(1) = UNKNOWN; call(-1) = UNKNOWN; trace() = 4");
    }

    private static void as() {
        says("31: each is a POST, too; WORKS are a HOUSE; CAST: it is none",
                "station(0, 0); station(1, 1); station(2, 2); as(0, 0) = 1; as(0, 1) = CAST; as(0, 2) = CAST; as(1, 0) = 1; as(1, 1) = 1; as(1, 2) = CAST",
                "as(2, 0) = 1; as(2, 1) = 1; as(2, 2) = 1; trace() = 0");
        says("31: OUTSIDE",
                "station(2, 0); as(0, -1) = OUTSIDE; as(0, 3) = OUTSIDE; as(0, MIN) = OUTSIDE; as(0, MAX) = OUTSIDE; as(0, 0) = 1; as(0, 2) = 1");
    }

    private static void fault() {
        says("33: 0: it came to none", "put(0, 0, 0) = NULL; fault() = 1; fault() = 1; sheet(0, 0, 1) = 1; fault() = 0",
                "cell(0, 0, 1) = LOST CAST; fault() = 2; put(0, 0, 3) = 1; fault() = 0; put(0, 1, 0) = INDEX; fault() = 3; cell(0, 0, 0) = 3; fault() = 0",
                "sheet(0, 0, -1) = SIZE; fault() = 4; train(); runs(0, 0, 0, 0, 0) = 0; fault() = 0; station(0, 0); as(0, 2) = CAST; fault() = 2; as(0, 0) = 1; fault() = 0");
        says("33: or was refused",
                "put(0, 0, 0) = NULL; put(4, 0, 0) = UNKNOWN; fault() = 0; put(0, 0, 0) = NULL; sheet(4, 0, 0) = UNKNOWN; fault() = 0",
                "put(0, 0, 0) = NULL; sheet(0, 3, 0) = OUTSIDE; fault() = 0; put(0, 0, 0) = NULL; cell(0, 0, 3) = LOST; fault() = 0; put(0, 0, 0) = NULL; cell(4, 0, 0) = LOST; fault() = 0",
                "put(0, 0, 0) = NULL; as(0, 0) = UNKNOWN; fault() = 0; put(0, 0, 0) = NULL; runs(0, 0, 0, 0, 0) = UNKNOWN; fault() = 0",
                "train(); put(0, 0, 0) = NULL; runs(0, 0, 3, 0, 0) = OUTSIDE; fault() = 0; station(0, 0); put(0, 0, 0) = NULL; as(0, 3) = OUTSIDE; fault() = 0",
                "sheet(1, 2, 60); put(0, 0, 0) = NULL; runs(0, 1, 2, 0, 25) = OUTSIDE; fault() = 0; put(1, 0, 101); put(0, 0, 0) = NULL; runs(0, 1, 2, 0, 1) = OUTSIDE; fault() = 0");
        says("33: calls that name no FAULT leave it, refused or not",
                "put(0, 0, 0) = NULL; rule(0, 100); rule(9, 0) = UNKNOWN; station(0, 0); station(9, 0) = OUTSIDE; set(0, true); set(9, true) = UNKNOWN; trip(0, 1); trip(9, 1) = UNKNOWN",
                "about(0, 0); about(9, 0) = UNKNOWN; train(); run(0, 0, 0, 0); run(9, 0, 0, 0) = UNKNOWN; putOff(0, 0); putOff(9, 0) = UNKNOWN; at(0, 0, 0); at(9, 0, 0) = UNKNOWN",
                "feeds(0); feeds(99) = UNKNOWN; volts(0, 0, 0); volts(99, 0, 0) = LOST; gives(0, 0, 0); gives(99, 0, 0) = LOST; lowest(0); lowest(9) = LOST; safe(); firstOut(); most(0); most(9) = LOST",
                "shorted(0, 1); shorted(999, 1) = UNKNOWN; right(1); right(0) = OUTSIDE; peak(1, 0); peak(9, 0) = LOST; used(0); used(9) = LOST; given(0); given(9) = LOST; best(0); best(9) = LOST",
                "lose(0); lose(9) = UNKNOWN; tell(0); tell(9) = UNKNOWN; call(0); call(9) = UNKNOWN; trace(); many(0); many(9) = OUTSIDE; fault() = 1");
    }

    private static void many() {
        says("34: OUTSIDE", "many(-1) = OUTSIDE; many(4) = OUTSIDE; many(MIN) = OUTSIDE; many(MAX) = OUTSIDE; many(0) = 0; many(3) = 0");
        says("34: the full line",
                "station(0, 0); station(0, 1); station(0, 2); station(0, 3); station(0, 4); many(0) = 5; many(1) = 5; set(4, false); set(0, false); many(0) = 5; many(1) = 3",
                "train(); train(); train(); train(); train(); many(2) = 5; many(3) = 0; run(4, 23, 0, 0); run(0, 0, 0, 0); many(3) = 2; run(3, 0, 5, 5); many(3) = 2",
                "putOff(4, 1); many(3) = 1; putOff(0, 1); many(3) = 2; sheet(0, 0, 48); runs(2, 0, 0, 0, 24); many(3) = 24; putOff(2, 5); putOff(0, 5); many(3) = 20");
    }

    private static void calls() {
        RailPower x = new RailPower();
        x.station(2, 7);
        int want = 0;
        for (int i = 2; i < MOST_CALLS; i++) {
            due("call " + i, "call(0)", x.call(0), 50);
            want = 31 * want + 5;
        }
        due("an object is used for 512 calls", "trace()", x.trace(), want);
        sentences++;
    }

    // ---- how a sentence is tried

    private static void says(String sentence, String... rows) {
        List<Call> calls = new ArrayList<>();
        for (String row : rows) {
            for (String told : row.split(";")) {
                Call.read(told.trim(), calls);
            }
        }
        RailPower x = new RailPower();
        int faultDue = 0;
        for (Call call : calls) {
            long got = call.on(x);
            due(sentence, call.told, call.isChecked() ? got : Math.min(got, 0), call.isChecked() ? call.want : 0);
            if (NAMING_FAULTS.contains(call.name())) {
                faultDue = call.fault;
            }
            due(sentence, "fault() after " + call.told, x.fault(), faultDue);
        }
        due(sentence, "more than 512 calls", Math.max(2 * calls.size(), MOST_CALLS), MOST_CALLS);
        for (int i = 0; i < calls.size(); i++) {
            if (calls.get(i).isRefused()) {
                changesNothing(sentence, calls.subList(0, i), calls.get(i));
            }
        }
        sentences++;
    }

    private static void due(String sentence, String call, long got, long want) {
        if (got != want) {
            wrong++;
            System.out.println(sentence + ": " + call + " answered " + got + ", due is " + want);
        }
    }

    private static void changesNothing(String sentence, List<Call> before, Call refused) {
        RailPower with = new RailPower();
        RailPower without = new RailPower();
        for (Call call : before) {
            if (call.changes()) {
                call.on(with);
                call.on(without);
            }
        }
        refused.on(with);
        long[] is = everything(with);
        if (before.size() + 1 + is.length > MOST_CALLS) {
            due(sentence, "too many calls ahead of " + refused.told, before.size(), 0);
        }
        if (!Arrays.equals(is, everything(without))) {
            due(sentence, "changed by " + refused.told, 1, 0);
        }
        refusals++;
    }

    /** All that an object tells, but for fault(); a number a call. The object is other then. */
    private static long[] everything(RailPower x) {
        List<Long> told = new ArrayList<>();
        told.add((long) x.trace());
        for (int i = 0; i < 5; i++) {
            for (int what = 0; what < 4; what++) {
                told.add((long) x.about(i, what));
            }
            told.add(x.used(i));
            told.add(x.given(i));
            told.add(x.peak(2, 10 + i));
            told.add((long) x.putOff(i, 0));
            for (int tick = 0; tick < 24; tick++) {
                told.add((long) x.at(i, tick, 0));
                told.add((long) x.at(i, tick, 1));
            }
        }
        for (int what = 0; what < 4; what++) {
            told.add((long) x.many(what));
            told.add(x.lowest(what));
            told.add(x.best(what));
        }
        everySheet(x, told);
        int[] rules = {200, 1, 750, 3000, 1};
        // LOW and TOP make way for V.
        for (int what = 4; what >= 0; what--) {
            told.add((long) x.rule(what, rules[what]));
        }
        return told.stream().mapToLong(number -> number).toArray();
    }

    private static void everySheet(RailPower x, List<Long> told) {
        for (int k = 0; k < 4; k++) {
            for (int lane = 0; lane < 3; lane++) {
                for (int i = 0; i < 8; i++) {
                    told.add(x.cell(k, i, lane));
                }
            }
            told.add((long) x.put(k, 59, 0));
            told.add((long) x.lose(k));
        }
    }

    /** A call by name, and what it is to answer. */
    private static final class Call {
        private static final Set<String> CHANGING = Set.of("rule", "station", "set", "trip", "train", "run", "runs",
                "putOff", "sheet", "lose", "put", "tell", "call");

        private final String told;
        private final Method method;
        private final Object[] arguments;
        private final Long want;
        private final int fault;

        private Call(String told, String want) {
            this.told = told;
            int open = told.indexOf('(');
            method = METHODS.get(told.substring(0, open));
            String inside = told.substring(open + 1, told.indexOf(')')).trim();
            String[] numbers = inside.isEmpty() ? new String[0] : inside.split(", *");
            arguments = new Object[numbers.length];
            for (int i = 0; i < numbers.length; i++) {
                int number = (int) number(numbers[i]);
                arguments[i] = method.getParameterTypes()[i] == boolean.class ? (Object) (number == 1) : (Object) number;
            }
            String[] words = want.isEmpty() ? new String[0] : want.split(" +");
            this.want = words.length == 0 ? null : (Long) number(words[0]);
            fault = faultOf(words);
        }

        // A call that names FAULTS answers -10 less its FAULT; where it answers LOST, the word follows.
        private int faultOf(String[] words) {
            if (words.length > 1) {
                return (int) (-10 - number(words[1]));
            }
            boolean isFault = words.length == 1 && want <= -11 && want >= -14 && method.getReturnType() == int.class;
            return isFault ? (int) (-10 - want) : 0;
        }

        static void read(String row, List<Call> into) {
            String[] parts = row.split(" *= *");
            String want = parts.length > 1 ? parts[1] : "";
            if (parts[0].contains("*")) {
                String[] halves = want.split("/");
                into.add(new Call(parts[0].replace("*", "0"), halves[0]));
                into.add(new Call(parts[0].replace("*", "1"), halves[1]));
            } else {
                into.add(new Call(parts[0], want));
            }
        }

        private static long number(String word) {
            return WORDS.containsKey(word) ? WORDS.get(word) : Long.parseLong(word);
        }

        String name() {
            return method.getName();
        }

        boolean isChecked() {
            return want != null;
        }

        boolean isRefused() {
            if (want == null || name().equals("trace") || name().equals("fault")) {
                return false;
            }
            boolean belowZero = want < 0 && want != RailPower.NONE;
            return want == RailPower.LOST || fault != 0 || method.getReturnType() == int.class && belowZero
                    && !name().equals("at") || name().equals("at") && (want == -1 || want == -2 || want == -3);
        }

        boolean changes() {
            return CHANGING.contains(name());
        }

        long on(RailPower x) {
            try {
                return ((Number) method.invoke(x, arguments)).longValue();
            } catch (ReflectiveOperationException e) {
                throw new IllegalStateException(told + ": " + e.getCause(), e);
            }
        }
    }
}
