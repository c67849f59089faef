import java.util.List;
import java.util.function.Supplier;
import java.util.function.ToLongFunction;

/**
 * Promise by promise, each refusal and each fault: what is answered, of two that fit the first one, and
 * that nothing is changed by it (see Twins).
 */
public final class RefusalsTest {
    private static final int UNKNOWN = -1, OUTSIDE = -2, STATE = -3, FULL = -4;
    private static final int NULL = 1, CAST = 2, INDEX = 3, SIZE = 4;
    private static final long LOST = Long.MIN_VALUE;
    private static final int MIN = Integer.MIN_VALUE, MAX = Integer.MAX_VALUE;
    private static final Check check = new Check();
    private static final Twins twins = new Twins(check);

    public static void main(String[] args) {
        map();
        torque();
        lag();
        step();
        stepIsFull();
        loadRefused();
        loadFaulted();
        loadOfNoStepAndFull();
        clear();
        stepped();
        start();
        tick();
        stop();
        reset();
        told();
        was();
        mark();
        channel();
        channelIsFull();
        limit();
        lose();
        loseIsFull();
        correct();
        correctIsFull();
        other();
        reading();
        state();
        report();
        validAndLaw();
        sheet();
        drop();
        put();
        at();
        tellAndDraw();
        as();
        check.close("RefusalsTest");
    }

    private static void off(String call, ToLongFunction<EngineCell> ask, long want) {
        twins.unchanged(call, Rooms::off, ask, want);
    }

    private static void everywhere(String call, ToLongFunction<EngineCell> ask, long want) {
        twins.unchanged(call, Rooms.all(), ask, want);
    }

    private static void started(String call, ToLongFunction<EngineCell> ask, long want) {
        twins.unchanged(call, Rooms.started(), ask, want);
    }

    /** A call that names FAULTS and is refused: fault() was 2 ahead of it and is 0 behind it. */
    private static void refused(String call, ToLongFunction<EngineCell> ask, long want) {
        twins.faulted(call, Rooms.all(), ask, want, 0);
    }

    private static void faulted(String call, ToLongFunction<EngineCell> ask, int fault) {
        twins.faulted(call, Rooms.all(), ask, -10 - fault, fault);
    }

    private static void faultedOff(String call, ToLongFunction<EngineCell> ask, int fault) {
        twins.faulted(call, Rooms::off, ask, -10 - fault, fault);
    }

    private static void map() {
        everywhere("map(-1, 5)", x -> x.map(-1, 5), UNKNOWN);
        everywhere("map(25, 5)", x -> x.map(25, 5), UNKNOWN);
        everywhere("map(MIN, 5)", x -> x.map(MIN, 5), UNKNOWN);
        everywhere("map(25, 1001), UNKNOWN ahead of OUTSIDE", x -> x.map(25, 1001), UNKNOWN);
        everywhere("map(0, -501)", x -> x.map(0, -501), OUTSIDE);
        everywhere("map(24, 1001), OUTSIDE ahead of STATE", x -> x.map(24, 1001), OUTSIDE);
        started("map(0, 5)", x -> x.map(0, 5), STATE);
    }

    private static void torque() {
        everywhere("torque(-1, 0)", x -> x.torque(-1, 0), LOST);
        everywhere("torque(8001, 0)", x -> x.torque(8001, 0), LOST);
        everywhere("torque(0, -1)", x -> x.torque(0, -1), LOST);
        everywhere("torque(0, 1001)", x -> x.torque(0, 1001), LOST);
        everywhere("torque(MAX, MIN)", x -> x.torque(MAX, MIN), LOST);
    }

    private static void lag() {
        everywhere("lag(0)", x -> x.lag(0), OUTSIDE);
        everywhere("lag(21), OUTSIDE ahead of STATE", x -> x.lag(21), OUTSIDE);
        started("lag(7)", x -> x.lag(7), STATE);
    }

    private static void step() {
        off("step(-1, 1, 1, 1)", x -> x.step(-1, 1, 1, 1), OUTSIDE);
        off("step(5, 1, 1, 1)", x -> x.step(5, 1, 1, 1), OUTSIDE);
        off("step(0, 0, 1, 1)", x -> x.step(0, 0, 1, 1), OUTSIDE);
        off("step(0, 501, 1, 1)", x -> x.step(0, 501, 1, 1), OUTSIDE);
        off("step(1, 0, 1, 1)", x -> x.step(1, 0, 1, 1), OUTSIDE);
        off("step(1, 501, 1, 1)", x -> x.step(1, 501, 1, 1), OUTSIDE);
        off("step(1, 1, -1, 1)", x -> x.step(1, 1, -1, 1), OUTSIDE);
        off("step(1, 1, 8001, 1)", x -> x.step(1, 1, 8001, 1), OUTSIDE);
        off("step(1, 1, 1, -1)", x -> x.step(1, 1, 1, -1), OUTSIDE);
        off("step(1, 1, 1, 1001)", x -> x.step(1, 1, 1, 1001), OUTSIDE);
        off("step(2, 0, 0, 0)", x -> x.step(2, 0, 0, 0), OUTSIDE);
        off("step(2, 0, 0, 501)", x -> x.step(2, 0, 0, 501), OUTSIDE);
        off("step(3, -1, 1, 1)", x -> x.step(3, -1, 1, 1), OUTSIDE);
        // it would be STEP 7
        off("step(3, 8, 1, 1)", x -> x.step(3, 8, 1, 1), OUTSIDE);
        off("step(3, 0, 0, 1)", x -> x.step(3, 0, 0, 1), OUTSIDE);
        off("step(3, 0, 101, 1)", x -> x.step(3, 0, 101, 1), OUTSIDE);
        started("step(4, 0, 0, 0)", x -> x.step(4, 0, 0, 0), STATE);
        started("step(5, 0, 0, 0), STATE ahead of OUTSIDE", x -> x.step(5, 0, 0, 0), STATE);
        started("step(0, 0, 0, 0), STATE ahead of OUTSIDE", x -> x.step(0, 0, 0, 0), STATE);
    }

    private static EngineCell thirtySteps() {
        EngineCell x = new EngineCell();
        for (int s = 0; s < 30; s++) x.step(0, 1 + s, s, -s);
        x.sheet(0, 0, 8);
        x.put(0, 1, 5);
        x.put(0, 4, 9);
        x.as(0, 4);
        return x;
    }

    private static EngineCell thirtyStepsRunning() {
        EngineCell x = thirtySteps();
        x.start();
        x.tick(2);
        return x;
    }

    private static void stepIsFull() {
        twins.unchanged("step of 31", RefusalsTest::thirtySteps, x -> x.step(4, 0, 0, 0), FULL);
        twins.unchanged("step of 31, OUTSIDE ahead of FULL", RefusalsTest::thirtySteps,
            x -> x.step(0, 0, 0, 0), OUTSIDE);
        twins.unchanged("step of 31, STATE ahead of FULL", RefusalsTest::thirtyStepsRunning,
            x -> x.step(4, 0, 0, 0), STATE);
    }

    private static void loadRefused() {
        refused("load(-1, 0, 0, 0)", x -> x.load(-1, 0, 0, 0), UNKNOWN);
        refused("load(4, 0, 0, 0)", x -> x.load(4, 0, 0, 0), UNKNOWN);
        refused("load(4, 3, 0, 0), UNKNOWN ahead of OUTSIDE", x -> x.load(4, 3, 0, 0), UNKNOWN);
        refused("load(4, 0, -1, -1), UNKNOWN ahead of SIZE", x -> x.load(4, 0, -1, -1), UNKNOWN);
        refused("load(0, -1, 0, 0)", x -> x.load(0, -1, 0, 0), OUTSIDE);
        refused("load(0, 3, 0, 0), OUTSIDE ahead of STATE", x -> x.load(0, 3, 0, 0), OUTSIDE);
        refused("load(3, 3, 0, -1), OUTSIDE ahead of NULL", x -> x.load(3, 3, 0, -1), OUTSIDE);
        for (Supplier<EngineCell> made : Rooms.started()) {
            twins.faulted("load(0, 0, 0, 1)", made, x -> x.load(0, 0, 0, 1), STATE, 0);
            twins.faulted("load, STATE ahead of CAST", made, x -> x.load(0, 1, 0, 1), STATE, 0);
            twins.faulted("load, STATE ahead of NULL", made, x -> x.load(3, 0, 0, 1), STATE, 0);
            twins.faulted("load, STATE ahead of SIZE", made, x -> x.load(0, 0, 0, -1), STATE, 0);
            twins.faulted("load, STATE ahead of INDEX", made, x -> x.load(0, 0, 6, 1), STATE, 0);
            twins.faulted("load, STATE ahead of OUTSIDE of a STEP", made, x -> x.load(0, 0, 0, 2), STATE, 0);
        }
    }

    private static void loadFaulted() {
        faultedOff("load of another LANE", x -> x.load(0, 1, 0, 1), CAST);
        faultedOff("load, CAST ahead of SIZE", x -> x.load(0, 2, 0, -1), CAST);
        faultedOff("load, CAST ahead of INDEX", x -> x.load(2, 1, 41, 1), CAST);
        faultedOff("load of nothing", x -> x.load(3, 2, 0, 1), NULL);
        faultedOff("load, NULL ahead of SIZE", x -> x.load(3, 0, 0, -1), NULL);
        faultedOff("load, NULL ahead of INDEX", x -> x.load(3, 0, 41, 0), NULL);
        faultedOff("load(0, 0, 0, -1)", x -> x.load(0, 0, 0, -1), SIZE);
        faultedOff("load(0, 0, 0, MIN)", x -> x.load(0, 0, 0, MIN), SIZE);
        faultedOff("load, SIZE ahead of INDEX", x -> x.load(0, 0, -1, -1), SIZE);
        faultedOff("load(0, 0, -1, 1)", x -> x.load(0, 0, -1, 1), INDEX);
        faultedOff("load(0, 0, 5, 1)", x -> x.load(0, 0, 5, 1), INDEX);
        faultedOff("load(0, 0, 9, 0)", x -> x.load(0, 0, 9, 0), INDEX);
        faultedOff("load(0, 0, MIN, MAX)", x -> x.load(0, 0, MIN, MAX), INDEX);
        faultedOff("load(0, 0, MAX, MAX)", x -> x.load(0, 0, MAX, MAX), INDEX);
        // four times this n would be 0 as an int
        faultedOff("load(0, 0, 0, 0x40000000)", x -> x.load(0, 0, 0, 0x40000000), INDEX);
        // the second of three would be no STEP
        faultedOff("load, INDEX ahead of OUTSIDE of a STEP", x -> x.load(0, 0, 0, 3), INDEX);
        twins.faulted("load, INDEX ahead of FULL", RefusalsTest::thirtySteps, x -> x.load(0, 0, 0, 3), -13, INDEX);
    }

    private static void loadOfNoStepAndFull() {
        twins.faulted("load of what is no STEP", Rooms::off, x -> x.load(0, 0, 4, 1), OUTSIDE, 0);
        twins.faulted("load of a STEP and what is none", Rooms::off, x -> x.load(0, 0, 0, 2), OUTSIDE, 0);
        twins.faulted("load, OUTSIDE ahead of FULL", RefusalsTest::thirtySteps, x -> x.load(0, 0, 0, 2), OUTSIDE, 0);
        twins.faulted("load of 31", RefusalsTest::thirtySteps, x -> x.load(0, 0, 0, 1), FULL, 0);
        twins.faulted("load, STATE ahead of FULL", RefusalsTest::thirtyStepsRunning,
            x -> x.load(0, 0, 0, 1), STATE, 0);
        // some of them would have had a place
        twins.faulted("load of 27 to 36", RefusalsTest::twentySixSteps, x -> x.load(2, 2, 0, 10), FULL, 0);
    }

    private static EngineCell twentySixSteps() {
        EngineCell x = Rooms.off();
        while (x.told(6) < 26) x.step(4, 0, 0, 0);
        return x;
    }

    private static void clear() {
        started("clear()", x -> x.clear(), STATE);
    }

    private static void stepped() {
        everywhere("stepped(-1, 0)", x -> x.stepped(-1, 0), UNKNOWN);
        everywhere("stepped(7, 0)", x -> x.stepped(7, 0), UNKNOWN);
        everywhere("stepped(7, 4), UNKNOWN ahead of OUTSIDE", x -> x.stepped(7, 4), UNKNOWN);
        everywhere("stepped(6, 4)", x -> x.stepped(6, 4), OUTSIDE);
        everywhere("stepped(0, -1)", x -> x.stepped(0, -1), OUTSIDE);
    }

    private static void start() {
        started("start()", x -> x.start(), STATE);
        twins.unchanged("start() of no STEPS", EngineCell::new, x -> x.start(), STATE);
        twins.unchanged("start() of no STEPS more", RefusalsTest::cleared, x -> x.start(), STATE);
    }

    private static EngineCell cleared() {
        EngineCell x = Rooms.off();
        x.clear();
        return x;
    }

    private static void tick() {
        everywhere("tick(-1)", x -> x.tick(-1), OUTSIDE);
        everywhere("tick(1001), OUTSIDE ahead of STATE", x -> x.tick(1001), OUTSIDE);
        everywhere("tick(MIN)", x -> x.tick(MIN), OUTSIDE);
        off("tick(0)", x -> x.tick(0), STATE);
        off("tick(1)", x -> x.tick(1), STATE);
    }

    private static void stop() {
        off("stop()", x -> x.stop(), STATE);
        twins.unchanged("stop()", List.of(Rooms::stopping, Rooms::stopped), x -> x.stop(), STATE);
    }

    private static void reset() {
        twins.unchanged("reset()", List.of(Rooms::running, Rooms::stopping), x -> x.reset(), STATE);
    }

    private static void told() {
        everywhere("told(-1)", x -> x.told(-1), OUTSIDE);
        everywhere("told(10)", x -> x.told(10), OUTSIDE);
    }

    private static void was() {
        everywhere("was(-1, 0)", x -> x.was(-1, 0), UNKNOWN);
        everywhere("was of the next TICK", x -> x.was(x.told(1) + 1, 0), UNKNOWN);
        everywhere("was, UNKNOWN ahead of OUTSIDE", x -> x.was(x.told(1) + 1, 7), UNKNOWN);
        everywhere("was(MAX, MAX)", x -> x.was(MAX, MAX), UNKNOWN);
        everywhere("was of the last TICK, 7", x -> x.was(x.told(1), 7), OUTSIDE);
        everywhere("was(0, -1)", x -> x.was(0, -1), OUTSIDE);
    }

    private static void mark() {
        everywhere("mark(-1)", x -> x.mark(-1), UNKNOWN);
        everywhere("mark one beyond", x -> x.mark(x.told(5)), UNKNOWN);
        everywhere("mark(20)", x -> x.mark(20), UNKNOWN);
    }

    private static void channel() {
        off("channel(-1, ..)", x -> x.channel(-1, 1, 0, 0, 1), OUTSIDE);
        off("channel(5, ..)", x -> x.channel(5, 1, 0, 0, 1), OUTSIDE);
        off("RATE 0", x -> x.channel(0, 0, 0, 0, 1), OUTSIDE);
        off("RATE 21", x -> x.channel(0, 21, 0, 0, 1), OUTSIDE);
        off("DELAY -1", x -> x.channel(0, 1, -1, 0, 1), OUTSIDE);
        off("DELAY 21", x -> x.channel(0, 1, 21, 0, 1), OUTSIDE);
        off("low -10001", x -> x.channel(0, 1, 0, -10001, 1), OUTSIDE);
        off("low 10001", x -> x.channel(0, 1, 0, 10001, 10001), OUTSIDE);
        off("high 10001", x -> x.channel(0, 1, 0, 0, 10001), OUTSIDE);
        off("high -10001", x -> x.channel(0, 1, 0, -10001, -10001), OUTSIDE);
        off("low above high", x -> x.channel(0, 1, 0, 2, 1), OUTSIDE);
        started("channel(0, 1, 0, 0, 1)", x -> x.channel(0, 1, 0, 0, 1), STATE);
        started("channel, STATE ahead of OUTSIDE", x -> x.channel(5, 1, 0, 0, 1), STATE);
    }

    private static EngineCell eightChannels() {
        EngineCell x = new EngineCell();
        for (int c = 0; c < 8; c++) x.channel(c % 5, 1 + c, c, -c, c);
        x.step(0, 9, 0, 0);
        return x;
    }

    private static EngineCell eightChannelsRunning() {
        EngineCell x = eightChannels();
        x.start();
        x.tick(2);
        return x;
    }

    private static void channelIsFull() {
        twins.unchanged("channel of 9", RefusalsTest::eightChannels, x -> x.channel(0, 1, 0, 0, 1), FULL);
        twins.unchanged("channel of 9, OUTSIDE ahead of FULL", RefusalsTest::eightChannels,
            x -> x.channel(0, 1, 0, 2, 1), OUTSIDE);
        twins.unchanged("channel of 9, STATE ahead of FULL", RefusalsTest::eightChannelsRunning,
            x -> x.channel(0, 1, 0, 0, 1), STATE);
    }

    private static void limit() {
        everywhere("limit(-1, 0)", x -> x.limit(-1, 0), UNKNOWN);
        everywhere("limit(2, 0)", x -> x.limit(2, 0), UNKNOWN);
        everywhere("limit(2, 30001), UNKNOWN ahead of OUTSIDE", x -> x.limit(2, 30001), UNKNOWN);
        everywhere("limit(0, 30001)", x -> x.limit(0, 30001), OUTSIDE);
        everywhere("limit(1, -30001)", x -> x.limit(1, -30001), OUTSIDE);
        everywhere("limit(0, MIN)", x -> x.limit(0, MIN), OUTSIDE);
    }

    private static void lose() {
        everywhere("lose(-1, 0, 0)", x -> x.lose(-1, 0, 0), UNKNOWN);
        everywhere("lose(2, 0, 0)", x -> x.lose(2, 0, 0), UNKNOWN);
        everywhere("lose(2, 1, 0), UNKNOWN ahead of OUTSIDE", x -> x.lose(2, 1, 0), UNKNOWN);
        everywhere("lose(0, -1, 5)", x -> x.lose(0, -1, 5), OUTSIDE);
        everywhere("lose(0, 3001, 3001)", x -> x.lose(0, 3001, 3001), OUTSIDE);
        everywhere("lose(0, 1, 0)", x -> x.lose(0, 1, 0), OUTSIDE);
        everywhere("lose(0, 0, 3001)", x -> x.lose(0, 0, 3001), OUTSIDE);
        everywhere("lose(0, MIN, MAX)", x -> x.lose(0, MIN, MAX), OUTSIDE);
    }

    private static EngineCell twentyLosses() {
        EngineCell x = Rooms.off();
        for (int i = 2; i <= 20; i++) x.lose(i % 2, i, i);
        return x;
    }

    private static void loseIsFull() {
        twins.unchanged("lose of 21", RefusalsTest::twentyLosses, x -> x.lose(0, 0, 3000), FULL);
        twins.unchanged("lose of 21", RefusalsTest::twentyLosses, x -> x.lose(1, 0, 3000), FULL);
        twins.unchanged("lose of 21, OUTSIDE ahead of FULL", RefusalsTest::twentyLosses,
            x -> x.lose(0, 0, 3001), OUTSIDE);
        twins.unchanged("lose of 21, UNKNOWN ahead of FULL", RefusalsTest::twentyLosses, x -> x.lose(2, 0, 0), UNKNOWN);
    }

    private static void correct() {
        everywhere("correct(-1, 0, 1, 0)", x -> x.correct(-1, 0, 1, 0), UNKNOWN);
        everywhere("correct(2, 0, 1, 0)", x -> x.correct(2, 0, 1, 0), UNKNOWN);
        everywhere("correct(2, 0, 0, 0), UNKNOWN ahead of OUTSIDE", x -> x.correct(2, 0, 0, 0), UNKNOWN);
        everywhere("correct(0, -1, 1, 0)", x -> x.correct(0, -1, 1, 0), OUTSIDE);
        everywhere("correct(0, 3001, 1, 0)", x -> x.correct(0, 3001, 1, 0), OUTSIDE);
        everywhere("correct(0, 0, 0, 0)", x -> x.correct(0, 0, 0, 0), OUTSIDE);
        everywhere("correct(0, 0, 2001, 0)", x -> x.correct(0, 0, 2001, 0), OUTSIDE);
        everywhere("correct(0, 0, 1, -1001)", x -> x.correct(0, 0, 1, -1001), OUTSIDE);
        everywhere("correct(0, 0, 1, 1001)", x -> x.correct(0, 0, 1, 1001), OUTSIDE);
    }

    private static EngineCell twentyCorrections() {
        EngineCell x = Rooms.running();
        for (int i = 2; i <= 20; i++) x.correct(i % 2, i % 3, 1000 + i, i);
        return x;
    }

    private static void correctIsFull() {
        twins.unchanged("correct of 21", RefusalsTest::twentyCorrections, x -> x.correct(0, 0, 1, 0), FULL);
        twins.unchanged("correct of 21", RefusalsTest::twentyCorrections, x -> x.correct(1, 0, 1, 0), FULL);
        twins.unchanged("correct of 21, OUTSIDE ahead of FULL", RefusalsTest::twentyCorrections,
            x -> x.correct(0, 0, 0, 0), OUTSIDE);
        twins.unchanged("correct of 21, UNKNOWN ahead of FULL", RefusalsTest::twentyCorrections,
            x -> x.correct(2, 0, 1, 0), UNKNOWN);
    }

    private static void other() {
        everywhere("other(-1)", x -> x.other(-1), UNKNOWN);
        everywhere("other(7)", x -> x.other(7), UNKNOWN);
        everywhere("other(MAX)", x -> x.other(MAX), UNKNOWN);
    }

    private static void reading() {
        everywhere("reading(-1, 0)", x -> x.reading(-1, 0), LOST);
        everywhere("reading(2, 0)", x -> x.reading(2, 0), LOST);
        everywhere("reading(0, -1)", x -> x.reading(0, -1), LOST);
        everywhere("reading of the next TICK", x -> x.reading(0, x.told(1) + 1), LOST);
        everywhere("reading(1, 1) of none of the CHANNEL's", x -> x.reading(1, 1), LOST);
    }

    private static void state() {
        everywhere("state(-1, 0)", x -> x.state(-1, 0), UNKNOWN);
        everywhere("state(2, 0)", x -> x.state(2, 0), UNKNOWN);
        everywhere("state(0, -1)", x -> x.state(0, -1), UNKNOWN);
        everywhere("state of the next TICK", x -> x.state(0, x.told(1) + 1), UNKNOWN);
        everywhere("state(1, 1) of none of the CHANNEL's", x -> x.state(1, 1), UNKNOWN);
    }

    private static void report() {
        everywhere("report(-1, 0, 0)", x -> x.report(-1, 0, 0), LOST);
        everywhere("report one beyond", x -> x.report(x.told(5), 0, 0), LOST);
        started("report(0, -1, 0)", x -> x.report(0, -1, 0), LOST);
        started("report(0, 2, 0)", x -> x.report(0, 2, 0), LOST);
        started("report(0, 0, -1)", x -> x.report(0, 0, -1), LOST);
        started("report(0, 0, 8)", x -> x.report(0, 0, 8), LOST);
        everywhere("report(MIN, MAX, MIN)", x -> x.report(MIN, MAX, MIN), LOST);
    }

    private static void validAndLaw() {
        everywhere("valid(-1)", x -> x.valid(-1), UNKNOWN);
        everywhere("valid(2)", x -> x.valid(2), UNKNOWN);
        everywhere("law(-1, 0)", x -> x.law(-1, 0), LOST);
        everywhere("law(2, 0)", x -> x.law(2, 0), LOST);
        everywhere("law(0, -1)", x -> x.law(0, -1), LOST);
        everywhere("law(0, 5)", x -> x.law(0, 5), LOST);
    }

    private static void sheet() {
        refused("sheet(-1, 0, 1)", x -> x.sheet(-1, 0, 1), UNKNOWN);
        refused("sheet(4, 0, 1)", x -> x.sheet(4, 0, 1), UNKNOWN);
        refused("sheet(4, 3, 1), UNKNOWN ahead of OUTSIDE", x -> x.sheet(4, 3, 1), UNKNOWN);
        refused("sheet(4, 0, -1), UNKNOWN ahead of SIZE", x -> x.sheet(4, 0, -1), UNKNOWN);
        refused("sheet(0, -1, 1)", x -> x.sheet(0, -1, 1), OUTSIDE);
        refused("sheet(0, 3, 1)", x -> x.sheet(0, 3, 1), OUTSIDE);
        refused("sheet(2, 2, 41)", x -> x.sheet(2, 2, 41), OUTSIDE);
        refused("sheet(3, 2, MAX)", x -> x.sheet(3, 2, MAX), OUTSIDE);
        refused("sheet(0, 3, -1), OUTSIDE ahead of SIZE", x -> x.sheet(0, 3, -1), OUTSIDE);
        faulted("sheet(0, 0, -1)", x -> x.sheet(0, 0, -1), SIZE);
        faulted("sheet(3, 2, MIN)", x -> x.sheet(3, 2, MIN), SIZE);
    }

    private static void drop() {
        everywhere("drop(-1)", x -> x.drop(-1), UNKNOWN);
        everywhere("drop(4)", x -> x.drop(4), UNKNOWN);
        everywhere("drop(3) of nothing", x -> x.drop(3), 0);
    }

    private static void put() {
        refused("put(-1, 0, 9)", x -> x.put(-1, 0, 9), UNKNOWN);
        refused("put(4, 0, 9)", x -> x.put(4, 0, 9), UNKNOWN);
        refused("put(4, -1, 9), UNKNOWN ahead of INDEX", x -> x.put(4, -1, 9), UNKNOWN);
        faulted("put(3, 0, 9)", x -> x.put(3, 0, 9), NULL);
        faulted("put(3, 40, 9), NULL ahead of INDEX", x -> x.put(3, 40, 9), NULL);
        faulted("put(1, -1, 9)", x -> x.put(1, -1, 9), INDEX);
        faulted("put(1, 2, 9)", x -> x.put(1, 2, 9), INDEX);
        faulted("put(2, 40, 9)", x -> x.put(2, 40, 9), INDEX);
        faulted("put(2, MIN, 9)", x -> x.put(2, MIN, 9), INDEX);
    }

    private static void at() {
        refused("at(-1, 0, 0)", x -> x.at(-1, 0, 0), LOST);
        refused("at(4, 0, 0)", x -> x.at(4, 0, 0), LOST);
        refused("at(0, 0, -1)", x -> x.at(0, 0, -1), LOST);
        refused("at(0, 0, 3)", x -> x.at(0, 0, 3), LOST);
        refused("at(4, -1, 0), UNKNOWN ahead of INDEX", x -> x.at(4, -1, 0), LOST);
        refused("at(3, 0, 3), OUTSIDE ahead of NULL", x -> x.at(3, 0, 3), LOST);
        refused("at(0, 8, 3), OUTSIDE ahead of INDEX", x -> x.at(0, 8, 3), LOST);
        lost("at(0, 0, 1)", x -> x.at(0, 0, 1), CAST);
        lost("at(0, 8, 2), CAST ahead of INDEX", x -> x.at(0, 8, 2), CAST);
        lost("at(3, 0, 0)", x -> x.at(3, 0, 0), NULL);
        lost("at(3, -1, 1), NULL ahead of INDEX", x -> x.at(3, -1, 1), NULL);
        lost("at(0, 8, 0)", x -> x.at(0, 8, 0), INDEX);
        lost("at(1, -1, 1)", x -> x.at(1, -1, 1), INDEX);
        lost("at(2, 40, 2)", x -> x.at(2, 40, 2), INDEX);
    }

    private static void lost(String call, ToLongFunction<EngineCell> ask, int fault) {
        twins.faulted(call, Rooms.all(), ask, LOST, fault);
    }

    private static void tellAndDraw() {
        everywhere("tell(-1)", x -> x.tell(-1), UNKNOWN);
        everywhere("tell(7)", x -> x.tell(7), UNKNOWN);
        everywhere("draw(-1)", x -> x.draw(-1), UNKNOWN);
        everywhere("draw(7)", x -> x.draw(7), UNKNOWN);
    }

    private static void as() {
        refused("as(-1, 0)", x -> x.as(-1, 0), UNKNOWN);
        refused("as(7, 0)", x -> x.as(7, 0), UNKNOWN);
        refused("as(7, 5), UNKNOWN ahead of OUTSIDE", x -> x.as(7, 5), UNKNOWN);
        refused("as(0, -1)", x -> x.as(0, -1), OUTSIDE);
        refused("as(0, 5)", x -> x.as(0, 5), OUTSIDE);
        faulted("as(0, 0)", x -> x.as(0, 0), CAST);
        faulted("as(2, 1)", x -> x.as(2, 1), CAST);
    }
}
