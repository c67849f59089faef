import java.util.function.IntToLongFunction;

/**
 * Each range of numbers that the document names: the last number inside and the first one outside, at
 * both ends, and the wildest ones; and that what is inside is what it does.
 */
public final class RangesTest {
    private static final int UNKNOWN = -1, OUTSIDE = -2;
    private static final long LOST = Long.MIN_VALUE;
    private static final int MIN = Integer.MIN_VALUE, MAX = Integer.MAX_VALUE;
    private static final Check check = new Check();

    public static void main(String[] args) {
        numbersOfTheMap();
        valuesOfTheMap();
        speedsAndPedals();
        lags();
        kindsOfSteps();
        holds();
        ramps();
        waits();
        loops();
        marksHaveAnyNumbers();
        loadedSteps();
        stepsAndTheirNumbers();
        callsOfTicks();
        whatIsTold();
        ticksThatWere();
        marks();
        sources();
        rates();
        delays();
        channelRanges();
        limits();
        losses();
        corrections();
        channelsOfEachCall();
        readingTicks();
        reports();
        laws();
        sheets();
        lanes();
        lengths();
        cells();
        kindsTakenAs();
        check.close("RangesTest");
    }

    /** Asks with the ends of a range and what is next to them: refused or not; what is inside answers at least 0. */
    private static void range(String call, int low, int high, long refusal, IntToLongFunction ask) {
        check.due(call + " of " + (low - 1), ask.applyAsLong(low - 1), refusal);
        check.due(call + " of " + (high + 1), ask.applyAsLong(high + 1), refusal);
        check.due(call + " of MIN", ask.applyAsLong(MIN), refusal);
        check.due(call + " of MAX", ask.applyAsLong(MAX), refusal);
        check.due(call + " of " + low, ask.applyAsLong(low) >= 0 ? 1 : 0, 1);
        check.due(call + " of " + high, ask.applyAsLong(high) >= 0 ? 1 : 0, 1);
    }

    private static EngineCell with(int... steps) {
        EngineCell x = new EngineCell();
        for (int i = 0; i < steps.length; i += 4) {
            check.due("step", x.step(steps[i], steps[i + 1], steps[i + 2], steps[i + 3]), i / 4);
        }
        return x;
    }

    /** Two MARKS at TICKS 1, 3 and two CHANNELS; 4 TICKS were. */
    private static EngineCell marked() {
        EngineCell x = with(4, 0, 0, 0, 0, 2, 0, 0, 4, 0, 0, 0, 0, 500, 0, 0);
        x.channel(3, 1, 0, 0, 100);
        x.channel(3, 1, 0, 0, 100);
        x.start();
        x.tick(4);
        return x;
    }

    private static void numbersOfTheMap() {
        range("a number of THE MAP", 0, 24, UNKNOWN, k -> new EngineCell().map(k, 5));
    }

    private static void valuesOfTheMap() {
        range("a value of THE MAP", -500, 1000, OUTSIDE, v -> new EngineCell().map(12, v));
        int[] values = {-500, 1000, -499, 999};
        for (int v : values) {
            EngineCell x = new EngineCell();
            x.map(12, v);
            check.due("the value " + v, x.torque(4000, 500), v);
        }
    }

    private static void speedsAndPedals() {
        range("a speed", 0, 8000, LOST, speed -> new EngineCell().torque(speed, 0));
        range("a pedal", 0, 1000, LOST, pedal -> new EngineCell().torque(0, pedal));
        range("a speed at the greatest pedal", 0, 8000, LOST, speed -> new EngineCell().torque(speed, 1000));
        range("a pedal at the greatest speed", 0, 1000, LOST, pedal -> new EngineCell().torque(8000, pedal));
    }

    private static void lags() {
        range("a LAG", 1, 20, OUTSIDE, n -> new EngineCell().lag(n));
        EngineCell x = new EngineCell();
        x.lag(20);
        check.due("told(9)", x.told(9), 20);
        x.lag(1);
        check.due("told(9)", x.told(9), 1);
    }

    private static void kindsOfSteps() {
        // as each kind these are as told: 1 TICK, SPEED 1, PEDAL 1, at most 1 TICK
        range("a kind", 0, 4, OUTSIDE, kind -> with(4, 0, 0, 0).step(kind, 1, 1, 1));
    }

    private static void holds() {
        range("a HOLD's a", 1, 500, OUTSIDE, a -> new EngineCell().step(0, a, 0, 0));
        EngineCell x = new EngineCell();
        check.due("a HOLD's b, c", x.step(0, 1, MIN, MAX), 0);
        check.due("a HOLD's b, c", x.step(0, 1, MAX, MIN), 1);
    }

    private static void ramps() {
        range("a RAMP's a", 1, 500, OUTSIDE, a -> new EngineCell().step(1, a, 0, 0));
        range("a RAMP's b", 0, 8000, OUTSIDE, b -> new EngineCell().step(1, 1, b, 0));
        range("a RAMP's c", 0, 1000, OUTSIDE, c -> new EngineCell().step(1, 1, 0, c));
    }

    private static void waits() {
        range("a WAIT's c", 1, 500, OUTSIDE, c -> new EngineCell().step(2, 0, 0, c));
        EngineCell x = new EngineCell();
        check.due("a WAIT's a, b", x.step(2, MIN, MAX, 1), 0);
        check.due("a WAIT's a, b", x.step(2, MAX, MIN, 1), 1);
    }

    private static void loops() {
        range("a LOOP's a as STEP 0", 0, 0, OUTSIDE, a -> new EngineCell().step(3, a, 1, 0));
        range("a LOOP's a as STEP 2", 0, 2, OUTSIDE, a -> with(4, 0, 0, 0, 4, 0, 0, 0).step(3, a, 1, 0));
        range("a LOOP's b", 1, 100, OUTSIDE, b -> new EngineCell().step(3, 0, b, 0));
        EngineCell x = new EngineCell();
        check.due("a LOOP's c", x.step(3, 0, 1, MIN), 0);
        check.due("a LOOP's c", x.step(3, 0, 1, MAX), 1);
    }

    private static void marksHaveAnyNumbers() {
        EngineCell x = new EngineCell();
        check.due("a MARK", x.step(4, MIN, MIN, MIN), 0);
        check.due("a MARK", x.step(4, MAX, MAX, MAX), 1);
    }

    /** One STEP by load, behind a MARK. */
    private static long loaded(int kind, int a, int b, int c) {
        EngineCell x = with(4, 0, 0, 0);
        x.sheet(0, 2, 4);
        int[] cells = {kind, a, b, c};
        for (int i = 0; i < 4; i++) x.put(0, i, cells[i]);
        return x.load(0, 2, 0, 1);
    }

    private static void loadedSteps() {
        range("a loaded kind", 0, 4, OUTSIDE, kind -> loaded(kind, 1, 1, 1));
        range("a loaded HOLD's a", 1, 500, OUTSIDE, a -> loaded(0, a, MIN, MAX));
        range("a loaded RAMP's a", 1, 500, OUTSIDE, a -> loaded(1, a, 0, 0));
        range("a loaded RAMP's b", 0, 8000, OUTSIDE, b -> loaded(1, 1, b, 0));
        range("a loaded RAMP's c", 0, 1000, OUTSIDE, c -> loaded(1, 1, 0, c));
        range("a loaded WAIT's c", 1, 500, OUTSIDE, c -> loaded(2, MIN, MAX, c));
        range("a loaded LOOP's a", 0, 1, OUTSIDE, a -> loaded(3, a, 1, MIN));
        range("a loaded LOOP's b", 1, 100, OUTSIDE, b -> loaded(3, 0, b, MAX));
        check.due("a loaded MARK", loaded(4, MIN, MAX, MIN), 2);
    }

    private static void stepsAndTheirNumbers() {
        EngineCell x = with(0, 3, 4, 5, 1, 6, 7, 8, 4, 9, 10, 11);
        range("stepped", 0, 2, UNKNOWN, s -> x.stepped(s, 0));
        range("stepped, what", 0, 3, OUTSIDE, what -> x.stepped(1, what));
        range("tell", 0, 2, UNKNOWN, x::tell);
        range("draw", 0, 2, UNKNOWN, x::draw);
        range("as", 0, 2, UNKNOWN, s -> x.as(s, s == 2 ? 3 : 0));
    }

    private static void callsOfTicks() {
        range("tick", 0, 1000, OUTSIDE, n -> {
            EngineCell x = with(0, 500, 0, 0, 3, 0, 9, 0);
            x.start();
            return x.tick(n);
        });
        EngineCell x = with(0, 500, 0, 0, 3, 0, 9, 0);
        x.start();
        check.due("tick(0)", x.tick(0), 0);
        check.due("told(1)", x.told(1), 0);
        check.due("tick(1000)", x.tick(1000), 1000);
        check.due("told(1)", x.told(1), 1000);
    }

    private static void whatIsTold() {
        range("told", 0, 9, OUTSIDE, what -> what == 3 ? 0 : marked().told(what));
    }

    private static void ticksThatWere() {
        range("was of a new object", 0, 0, UNKNOWN, tick -> new EngineCell().was(tick, 0));
        range("was", 0, 4, UNKNOWN, tick -> marked().was(tick, 0));
        range("was, what", 0, 6, OUTSIDE, what -> marked().was(4, what));
    }

    private static void marks() {
        range("mark", 0, 1, UNKNOWN, m -> marked().mark(m));
    }

    private static void sources() {
        range("a SOURCE", 0, 4, OUTSIDE, source -> new EngineCell().channel(source, 1, 0, 0, 1));
    }

    private static void rates() {
        range("a RATE", 1, 20, OUTSIDE, rate -> new EngineCell().channel(0, rate, 0, 0, 1));
        EngineCell x = with(0, 50, 0, 0);
        x.channel(3, 20, 0, 0, 100);
        x.channel(3, 1, 0, 0, 100);
        x.start();
        x.tick(40);
        for (int tick = 0; tick <= 40; tick++) {
            check.due("RATE 20 at " + tick, x.state(0, tick), tick % 20 == 0 ? 0 : UNKNOWN);
            check.due("RATE 1 at " + tick, x.state(1, tick), 0);
        }
    }

    private static void delays() {
        range("a DELAY", 0, 20, OUTSIDE, delay -> new EngineCell().channel(0, 1, delay, 0, 1));
        EngineCell x = with(0, 50, 0, 0);
        x.channel(3, 1, 0, 0, 100);
        x.channel(3, 1, 20, 0, 100);
        x.start();
        x.tick(21);
        check.due("DELAY 0 at 0", x.reading(0, 0), 20);
        check.due("DELAY 20 at 19", x.reading(1, 19), LOST);
        check.due("DELAY 20 at 20", x.reading(1, 20), 20);
    }

    private static void channelRanges() {
        range("low", -10000, 10000, OUTSIDE, low -> new EngineCell().channel(0, 1, 0, low, 10000));
        range("high", -10000, 10000, OUTSIDE, high -> new EngineCell().channel(0, 1, 0, -10000, high));
        range("low, by high", -10000, 7, OUTSIDE, low -> new EngineCell().channel(0, 1, 0, low, 7));
        range("high, by low", 7, 10000, OUTSIDE, high -> new EngineCell().channel(0, 1, 0, 7, high));
        EngineCell x = new EngineCell();
        x.channel(3, 1, 0, 10000, 10000);
        x.channel(3, 1, 0, -10000, -10000);
        check.due("a reading", x.reading(0, 0), 10000);
        check.due("a reading", x.reading(1, 0), -10000);
    }

    private static void limits() {
        range("a LIMIT", -30000, 30000, OUTSIDE, v -> marked().limit(0, v));
    }

    private static void losses() {
        range("lose from", 0, 3000, OUTSIDE, from -> marked().lose(0, from, 3000));
        range("lose to", 0, 3000, OUTSIDE, to -> marked().lose(0, 0, to));
        range("lose to, by from", 7, 3000, OUTSIDE, to -> marked().lose(0, 7, to));
        range("lose to, by from 3000", 3000, 3000, OUTSIDE, to -> marked().lose(0, 3000, to));
    }

    private static void corrections() {
        range("correct from", 0, 3000, OUTSIDE, from -> marked().correct(0, from, 1, 0));
        range("correct g", 1, 2000, OUTSIDE, g -> marked().correct(0, 0, g, 0));
        range("correct h", -1000, 1000, OUTSIDE, h -> marked().correct(0, 0, 1, h));
        EngineCell x = marked();
        int[][] due = {{1, 0, 0}, {2000, 0, 40}, {1000, -1000, -980}, {1000, 1000, 1020}};
        for (int[] row : due) {
            x.correct(0, 0, row[0], row[1]);
            check.due("a reading", x.reading(0, 4), row[2]);
        }
    }

    private static void channelsOfEachCall() {
        range("limit", 0, 1, UNKNOWN, c -> marked().limit(c, 0));
        range("lose", 0, 1, UNKNOWN, c -> marked().lose(c, 0, 0));
        range("correct", 0, 1, UNKNOWN, c -> marked().correct(c, 0, 1, 0));
        range("reading", 0, 1, LOST, c -> marked().reading(c, 0));
        range("state", 0, 1, UNKNOWN, c -> marked().state(c, 0));
        range("report", 0, 1, LOST, c -> marked().report(0, c, 0));
        range("valid", 0, 1, UNKNOWN, c -> marked().valid(c));
        range("law", 0, 1, LOST, c -> marked().law(c, 0));
    }

    private static void readingTicks() {
        range("reading", 0, 4, LOST, tick -> marked().reading(0, tick));
        range("state", 0, 4, UNKNOWN, tick -> marked().state(0, tick));
    }

    private static void reports() {
        range("report", 0, 1, LOST, span -> marked().report(span, 0, 0));
        range("report, what", 0, 7, LOST, what -> marked().report(1, 1, what));
    }

    private static void laws() {
        range("law, what", 0, 4, LOST, what -> marked().law(1, what));
    }

    private static void sheets() {
        range("sheet", 0, 3, UNKNOWN, k -> new EngineCell().sheet(k, 0, 1));
        range("drop", 0, 3, UNKNOWN, k -> new EngineCell().drop(k));
        EngineCell x = new EngineCell();
        for (int k = 0; k < 4; k++) x.sheet(k, 0, 4);
        range("put", 0, 3, UNKNOWN, k -> x.put(k, 0, 4));
        range("at", 0, 3, LOST, k -> x.at(k, 0, 0));
        range("load", 0, 3, UNKNOWN, k -> x.load(k, 0, 0, 0));
    }

    private static void lanes() {
        range("a LANE", 0, 2, OUTSIDE, lane -> new EngineCell().sheet(0, lane, 1));
        EngineCell x = new EngineCell();
        for (int lane = 0; lane < 3; lane++) x.sheet(lane, lane, 4);
        // a LANE that is none is refused, whatever the SHEET has; as none it is SHEET 3's here
        range("at, LANE", 0, 2, LOST, lane -> x.at(lane < 0 || lane > 2 ? 3 : lane, 0, lane));
        range("load, LANE", 0, 2, OUTSIDE, lane -> x.load(lane < 0 || lane > 2 ? 3 : lane, lane, 0, 0));
    }

    private static void lengths() {
        for (int lane = 0; lane < 3; lane++) {
            int of = lane;
            EngineCell x = new EngineCell();
            check.due("sheet of 41", x.sheet(0, of, 41), OUTSIDE);
            check.due("sheet of MAX", x.sheet(0, of, MAX), OUTSIDE);
            check.due("sheet of -1", x.sheet(0, of, -1), -14);
            check.due("sheet of MIN", x.sheet(0, of, MIN), -14);
            check.due("drop", x.drop(0), 0);
            check.due("sheet of 40", x.sheet(0, of, 40), 1);
            check.due("the last cell", x.at(0, 39, of), 0);
            check.due("sheet of 0", x.sheet(0, of, 0), 1);
            check.due("drop", x.drop(0), 1);
        }
    }

    private static void cells() {
        EngineCell x = new EngineCell();
        x.sheet(0, 0, 7);
        x.sheet(1, 1, 40);
        x.sheet(2, 2, 1);
        range("put of 7", 0, 6, -13, i -> x.put(0, i, 1));
        range("put of 40", 0, 39, -13, i -> x.put(1, i, 1));
        range("put of 1", 0, 0, -13, i -> x.put(2, i, 1));
        range("at of 7", 0, 6, LOST, i -> x.at(0, i, 0));
        range("at of 40", 0, 39, LOST, i -> x.at(1, i, 1));
        range("at of 1", 0, 0, LOST, i -> x.at(2, i, 2));
        // from cell i on none, of a row of 7: behind the last one there is a place for none
        range("load of none", 0, 7, -13, i -> x.load(0, 0, i, 0));
        x.put(0, 0, 4);
        x.put(0, 3, 4);
        range("load of one", 0, 3, -13, i -> x.load(0, 0, i, 1));
    }

    private static void kindsTakenAs() {
        EngineCell x = with(4, 0, 0, 0);
        check.due("as(0, -1)", x.as(0, -1), OUTSIDE);
        check.due("as(0, 0)", x.as(0, 0), -12);
        check.due("as(0, 4)", x.as(0, 4), 1);
        check.due("as(0, 5)", x.as(0, 5), OUTSIDE);
        check.due("as(0, MIN)", x.as(0, MIN), OUTSIDE);
        check.due("as(0, MAX)", x.as(0, MAX), OUTSIDE);
    }
}
