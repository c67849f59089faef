/** Promises 5 to 15: STEPS, THE ROOM, MARKS. */
public final class ProgramTest {
    private static final int UNKNOWN = -1;
    private static final int OUTSIDE = -2;
    private static final int STATE = -3;
    private static final int FULL = -4;
    private static final int NONE = -9;
    private static final int MIN = Integer.MIN_VALUE;
    private static final int MAX = Integer.MAX_VALUE;
    private static final Check check = new Check();

    public static void main(String[] args) {
        stepNumbers();
        stepFullAndState();
        loadTakesCells();
        loadRefusals();
        loadFaults();
        loadChangesNothing();
        clear();
        stepped();
        start();
        tick();
        tickBeyond3000();
        stop();
        reset();
        told();
        was();
        mark();
        marksAreTwenty();
        holdAndRamp();
        rampFromWhatItWas();
        rampByLoop();
        waitTillReading();
        waitTooLong();
        waitWithoutChannel();
        waitIsCounted();
        waitSkipsLost();
        waitByCorrection();
        loopsInLoops();
        loopToItself();
        loopAsTheLastStep();
        fiftySteps();
        fiftyStepsAndTheEnd();
        fiftyStepsAndAHold();
        lastActs();
        limitsStopAsATickEnds();
        limitsDoNotCountInLastActs();
        check.close("ProgramTest");
    }

    private static EngineCell with(int... steps) {
        EngineCell x = new EngineCell();
        add(x, steps);
        return x;
    }

    private static void add(EngineCell x, int... steps) {
        for (int i = 0; i < steps.length; i += 4) {
            int number = x.told(6);
            check.due("step", x.step(steps[i], steps[i + 1], steps[i + 2], steps[i + 3]), number);
        }
    }

    private static EngineCell running(int... steps) {
        EngineCell x = with(steps);
        check.due("start()", x.start(), 1);
        return x;
    }

    private static void fill(EngineCell x, int sheet, int lane, int... cells) {
        check.due("sheet", x.sheet(sheet, lane, cells.length), 1);
        for (int i = 0; i < cells.length; i++) {
            check.due("put", x.put(sheet, i, cells[i]), 1);
        }
    }

    private static void step(EngineCell x, int kind, int a, int b, int c, int want) {
        check.due("step(" + kind + ", " + a + ", " + b + ", " + c + ")", x.step(kind, a, b, c), want);
    }

    private static void stepNumbers() {
        EngineCell x = new EngineCell();
        step(x, 0, 0, 1, 1, OUTSIDE);
        step(x, 0, 1, MIN, MAX, 0);
        step(x, 0, 500, 0, 0, 1);
        step(x, 0, 501, 0, 0, OUTSIDE);
        step(x, 0, -1, 0, 0, OUTSIDE);
        step(x, 1, 0, 0, 0, OUTSIDE);
        step(x, 1, 501, 0, 0, OUTSIDE);
        step(x, 1, 1, 0, 0, 2);
        step(x, 1, 500, 8000, 1000, 3);
        step(x, 1, 5, -1, 0, OUTSIDE);
        step(x, 1, 5, 8001, 0, OUTSIDE);
        step(x, 1, 5, 0, -1, OUTSIDE);
        step(x, 1, 5, 0, 1001, OUTSIDE);
        step(x, 2, 0, 0, 0, OUTSIDE);
        step(x, 2, 0, 0, 501, OUTSIDE);
        step(x, 2, MIN, MAX, 1, 4);
        step(x, 2, 99, MIN, 500, 5);
        step(x, 3, 7, 1, 0, OUTSIDE);
        step(x, 3, 6, 1, MAX, 6);
        step(x, 3, 0, 100, 0, 7);
        step(x, 3, -1, 1, 0, OUTSIDE);
        step(x, 3, 0, 0, 0, OUTSIDE);
        step(x, 3, 0, 101, 0, OUTSIDE);
        step(x, 4, MIN, MAX, -7, 8);
        step(x, 5, 1, 1, 1, OUTSIDE);
        step(x, -1, 1, 1, 1, OUTSIDE);
        step(x, MAX, 1, 1, 1, OUTSIDE);
        check.due("told(6)", x.told(6), 9);
    }

    private static void stepFullAndState() {
        EngineCell x = new EngineCell();
        for (int s = 0; s < 30; s++) {
            step(x, 4, 0, 0, 0, s);
        }
        step(x, 4, 0, 0, 0, FULL);
        step(x, 3, 30, 1, 0, FULL);
        step(x, 3, 31, 1, 0, OUTSIDE);
        step(x, 0, 0, 0, 0, OUTSIDE);
        check.due("told(6)", x.told(6), 30);
        x.start();
        step(x, 0, 0, 0, 0, STATE);
        step(x, 4, 0, 0, 0, STATE);
    }

    private static void loadTakesCells() {
        EngineCell x = with(4, 0, 0, 0);
        fill(x, 2, 1, 9, 0, 300, -1, -2, 3, 1, 100, -32768, 4);
        check.due("load", x.load(2, 1, 1, 2), 3);
        int[][] wants = {{4, 0, 0, 0}, {0, 300, -1, -2}, {3, 1, 100, -32768}};
        for (int s = 0; s < 3; s++) {
            for (int what = 0; what < 4; what++) {
                check.due("stepped", x.stepped(s, what), wants[s][what]);
            }
        }
        check.due("load none", x.load(2, 1, 10, 0), 3);
        check.due("fault()", x.fault(), 0);
        EngineCell y = new EngineCell();
        fill(y, 0, 0, 2, -128, 127, 1);
        fill(y, 1, 2, 2, MIN, MAX, 500);
        check.due("load bytes", y.load(0, 0, 0, 1), 1);
        check.due("load ints", y.load(1, 2, 0, 1), 2);
        check.due("stepped", y.stepped(0, 1), -128);
        check.due("stepped", y.stepped(1, 1), MIN);
        check.due("stepped", y.stepped(1, 2), MAX);
        EngineCell z = new EngineCell();
        z.sheet(0, 0, 0);
        check.due("load of an empty row", z.load(0, 0, 0, 0), 0);
        check.due("load of an empty row", z.load(0, 0, 0, 1), -13);
        // a LOOP's number is the one it gets: to itself it may lead
        fill(z, 1, 0, 3, 1, 1, 0, 3, 1, 1, 0);
        check.due("load a LOOP too far", z.load(1, 0, 0, 1), OUTSIDE);
        check.due("load a LOOP too far", z.load(1, 0, 0, 2), OUTSIDE);
        z.step(4, 0, 0, 0);
        check.due("load LOOPS", z.load(1, 0, 0, 2), 3);
    }

    private static void loadRefusals() {
        EngineCell x = with(4, 0, 0, 0);
        x.sheet(0, 0, 8);
        check.due("load(-1, ..)", x.load(-1, 9, 0, 0), UNKNOWN);
        check.due("load(4, ..)", x.load(4, 9, 0, 0), UNKNOWN);
        check.due("load lane", x.load(0, 3, 0, 0), OUTSIDE);
        check.due("load lane", x.load(0, -1, 0, 0), OUTSIDE);
        x.start();
        check.due("load UNKNOWN first", x.load(4, 0, 0, 0), UNKNOWN);
        check.due("load OUTSIDE first", x.load(0, 3, 0, 0), OUTSIDE);
        check.due("load STATE ahead of CAST", x.load(0, 1, 0, 0), STATE);
        check.due("fault()", x.fault(), 0);
        check.due("load STATE ahead of NULL", x.load(1, 1, 0, 0), STATE);
        check.due("load STATE", x.load(0, 0, 0, 0), STATE);
    }

    private static void loadFaults() {
        EngineCell x = new EngineCell();
        x.sheet(0, 1, 9);
        check.due("load CAST", x.load(0, 0, -1, -1), -12);
        check.due("fault()", x.fault(), 2);
        check.due("load CAST", x.load(0, 2, 0, 0), -12);
        check.due("load NULL", x.load(1, 0, -1, -1), -11);
        check.due("fault()", x.fault(), 1);
        check.due("load SIZE", x.load(0, 1, -1, -1), -14);
        check.due("fault()", x.fault(), 4);
        check.due("load SIZE", x.load(0, 1, 0, MIN), -14);
        check.due("load INDEX", x.load(0, 1, -1, 0), -13);
        check.due("fault()", x.fault(), 3);
        check.due("load INDEX", x.load(0, 1, 10, 0), -13);
        check.due("load INDEX", x.load(0, 1, 2, 2), -13);
        check.due("load INDEX", x.load(0, 1, MAX, MAX), -13);
        check.due("load INDEX", x.load(0, 1, 0, 0x40000000), -13);
        check.due("load INDEX", x.load(0, 1, MIN, MAX), -13);
        check.due("load at the end", x.load(0, 1, 9, 0), 0);
        check.due("fault()", x.fault(), 0);
        // HOLDS for 0 TICKS: the INDEX is come to ahead of the STEPS
        check.due("load OUTSIDE", x.load(0, 1, 1, 2), OUTSIDE);
        check.due("fault()", x.fault(), 0);
    }

    private static void loadChangesNothing() {
        EngineCell x = new EngineCell();
        fill(x, 0, 2, 4, 0, 0, 0, 0, 7, 0, 0, 5, 0, 0, 0);
        check.due("load OUTSIDE", x.load(0, 2, 0, 3), OUTSIDE);
        check.due("told(6)", x.told(6), 0);
        for (int s = 0; s < 29; s++) {
            step(x, 4, 0, 0, 0, s);
        }
        check.due("load OUTSIDE ahead of FULL", x.load(0, 2, 0, 3), OUTSIDE);
        check.due("load FULL", x.load(0, 2, 0, 2), FULL);
        check.due("told(6)", x.told(6), 29);
        check.due("load the last", x.load(0, 2, 4, 1), 30);
        check.due("stepped", x.stepped(29, 1), 7);
        check.due("load none more", x.load(0, 2, 0, 0), 30);
        check.due("load FULL", x.load(0, 2, 0, 1), FULL);
        check.due("fault()", x.fault(), 0);
    }

    private static void clear() {
        EngineCell x = with(0, 1, 0, 0, 4, 0, 0, 0);
        check.due("clear()", x.clear(), 2);
        check.due("clear()", x.clear(), 0);
        check.due("told(6)", x.told(6), 0);
        check.due("stepped(0, 0)", x.stepped(0, 0), UNKNOWN);
        check.due("start()", x.start(), STATE);
        add(x, 0, 3, 0, 0);
        check.due("stepped(0, 1)", x.stepped(0, 1), 3);
        x.start();
        check.due("clear() running", x.clear(), STATE);
        check.due("told(6)", x.told(6), 1);
        x.tick(20);
        check.due("clear() stopped", x.clear(), STATE);
        x.reset();
        check.due("clear() off", x.clear(), 1);
    }

    private static void stepped() {
        EngineCell x = with(1, 5, 6, 7, 2, 8, 9, 10);
        int[] wants = {1, 5, 6, 7};
        for (int what = 0; what < 4; what++) {
            check.due("stepped(0, " + what + ")", x.stepped(0, what), wants[what]);
        }
        check.due("stepped(1, 3)", x.stepped(1, 3), 10);
        check.due("stepped(1, 4)", x.stepped(1, 4), OUTSIDE);
        check.due("stepped(1, -1)", x.stepped(1, -1), OUTSIDE);
        check.due("stepped(2, 4)", x.stepped(2, 4), UNKNOWN);
        check.due("stepped(-1, 0)", x.stepped(-1, 0), UNKNOWN);
    }

    private static void start() {
        EngineCell x = new EngineCell();
        check.due("start() without STEPS", x.start(), STATE);
        add(x, 0, 1, 0, 0, 3, 0, 1, 0);
        check.due("start()", x.start(), 1);
        check.due("told(0)", x.told(0), 1);
        check.due("start() running", x.start(), STATE);
        // stopped as the LOOP has led back once: with start() its count is 0 again
        x.tick(2);
        x.stop();
        check.due("start() stopping", x.start(), STATE);
        x.tick(10);
        check.due("start() stopped", x.start(), STATE);
        check.due("reset()", x.reset(), 12);
        check.due("start()", x.start(), 1);
        check.due("told(2)", x.told(2), 0);
        check.due("tick(100)", x.tick(100), 12);
    }

    private static void tick() {
        EngineCell x = with(0, 5, 0, 0);
        check.due("tick off", x.tick(1), STATE);
        check.due("tick off, OUTSIDE first", x.tick(1001), OUTSIDE);
        x.start();
        check.due("tick(-1)", x.tick(-1), OUTSIDE);
        check.due("tick(1001)", x.tick(1001), OUTSIDE);
        check.due("tick(0)", x.tick(0), 0);
        check.due("told(1)", x.told(1), 0);
        check.due("tick(4)", x.tick(4), 4);
        check.due("told(1)", x.told(1), 4);
        check.due("tick(1000)", x.tick(1000), 11);
        check.due("told(1)", x.told(1), 15);
        check.due("tick stopped", x.tick(1), 0);
        check.due("tick stopped", x.tick(1001), OUTSIDE);
    }

    private static void tickBeyond3000() {
        EngineCell x = running(0, 500, 0, 0, 3, 0, 100, 0);
        check.due("tick(1000)", x.tick(1000), 1000);
        check.due("tick(1000)", x.tick(1000), 1000);
        check.due("tick(999)", x.tick(999), 999);
        check.due("tick(5)", x.tick(5), 1);
        check.due("tick(5)", x.tick(5), 0);
        check.dueTold(x, 1, 3000);
        check.due("was(3000, 3)", x.was(3000, 3), 20);
        check.due("was(3001, 3)", x.was(3001, 3), UNKNOWN);
        check.due("stop()", x.stop(), 1);
        check.due("tick(5)", x.tick(5), 0);
        check.due("told(0)", x.told(0), 2);
        check.due("reset()", x.reset(), STATE);
    }

    private static void stop() {
        EngineCell x = with(0, 5, 0, 0, 0, 5, 0, 0);
        check.due("stop() off", x.stop(), STATE);
        x.start();
        x.tick(6);
        check.due("stop()", x.stop(), 1);
        check.dueTold(x, 2, 6, 1, 4, 0);
        check.due("stop() stopping", x.stop(), STATE);
        check.due("tick(20)", x.tick(20), 10);
        check.due("stop() stopped", x.stop(), STATE);
        check.dueTold(x, 3, 16, 1, 4, 10);
        EngineCell y = running(0, 5, 0, 0);
        check.due("stop() at TICK 0", y.stop(), 1);
        check.due("tick(20)", y.tick(20), 10);
    }

    private static void reset() {
        EngineCell x = with(4, 0, 0, 0, 1, 2, 4000, 500, 4, 0, 0, 0, 0, 1, 0, 0);
        x.map(1, 100);
        x.channel(0, 1, 0, 0, 100);
        x.lose(0, 0, 0);
        x.correct(0, 0, 2000, 3);
        check.due("reset() off", x.reset(), 0);
        x.start();
        check.due("reset() running", x.reset(), STATE);
        x.tick(4);
        check.due("reset() stopping", x.reset(), STATE);
        x.tick(100);
        check.dueTold(x, 3, 13, 4, 0, 10, 2, 4, 1, 1, 4);
        check.due("reset()", x.reset(), 13);
        check.dueTold(x, 0, 0, 0, NONE, 0, 0, 4, 1, 1, 4);
        check.dueTick(x, 0, 0, 0, 0, 20, 0, 0, 0);
        check.due("was(1, 0)", x.was(1, 0), UNKNOWN);
        check.due("mark(0)", x.mark(0), UNKNOWN);
        check.due("reading(0, 0)", x.reading(0, 0), Long.MIN_VALUE);
        check.due("state(0, 0)", x.state(0, 0), 2);
        check.due("reset() again", x.reset(), 0);
        x.start();
        x.tick(1);
        check.dueTick(x, 1, 500, 75, 62, 23, 225, 2000, 250);
        check.due("reading(0, 1)", x.reading(0, 1), 203);
        check.due("told(5)", x.told(5), 1);
    }

    private static void told() {
        EngineCell x = with(0, 1, 0, 0, 4, 0, 0, 0);
        x.lag(6);
        x.channel(0, 1, 0, 0, 100);
        x.channel(1, 1, 0, 0, 100);
        x.correct(1, 0, 1000, 0);
        check.dueTold(x, 0, 0, 0, NONE, 0, 0, 2, 2, 1, 6);
        check.due("told(10)", x.told(10), OUTSIDE);
        check.due("told(-1)", x.told(-1), OUTSIDE);
        x.start();
        check.dueTold(x, 1, 0, 0, NONE, 0, 0);
        x.tick(1);
        // behind the last TICK of a HOLD it is at the next STEP, which the next TICK comes to
        check.dueTold(x, 1, 1, 1, NONE, 0, 0);
        x.tick(1);
        check.dueTold(x, 2, 2, 2, 0, 1, 1);
        x.tick(9);
        check.dueTold(x, 3, 11, 2, 0, 10, 1);
    }

    private static void was() {
        EngineCell x = running(1, 1, 100, 50);
        check.due("was(0, 3)", x.was(0, 3), 20);
        check.due("was(1, 0)", x.was(1, 0), UNKNOWN);
        check.due("was(1, 7)", x.was(1, 7), UNKNOWN);
        check.due("was(-1, 0)", x.was(-1, 0), UNKNOWN);
        x.tick(1);
        check.due("was(1, 5)", x.was(1, 5), 100);
        check.due("was(1, 6)", x.was(1, 6), 50);
        check.due("was(1, 7)", x.was(1, 7), OUTSIDE);
        check.due("was(1, -1)", x.was(1, -1), OUTSIDE);
    }

    private static void mark() {
        EngineCell x = running(4, 0, 0, 0, 0, 3, 0, 0, 4, 0, 0, 0, 4, 0, 0, 0, 0, 2, 0, 0, 4, 0, 0, 0);
        check.due("mark(0)", x.mark(0), UNKNOWN);
        x.tick(10);
        int[] wants = {1, 4, 4, 6};
        for (int m = 0; m < 4; m++) {
            check.due("mark(" + m + ")", x.mark(m), wants[m]);
        }
        check.due("mark(4)", x.mark(4), UNKNOWN);
        check.due("mark(-1)", x.mark(-1), UNKNOWN);
        check.due("told(5)", x.told(5), 4);
    }

    private static void marksAreTwenty() {
        EngineCell x = running(4, 0, 0, 0, 0, 1, 0, 0, 3, 0, 24, 0);
        x.tick(25);
        check.due("told(5)", x.told(5), 20);
        check.due("mark(19)", x.mark(19), 20);
        check.due("mark(20)", x.mark(20), UNKNOWN);
        check.due("told(1)", x.told(1), 25);
    }

    private static void holdAndRamp() {
        EngineCell x = running(1, 3, 100, 1000, 0, 2, 0, 0, 1, 1, 7, 8);
        check.due("tick(6)", x.tick(6), 6);
        int[] speeds = {0, 33, 66, 100, 100, 100, 7};
        int[] pedals = {0, 333, 666, 1000, 1000, 1000, 8};
        for (int tick = 0; tick < 7; tick++) {
            check.due("WANTED SPEED at " + tick, x.was(tick, 5), speeds[tick]);
            check.due("PEDAL at " + tick, x.was(tick, 6), pedals[tick]);
        }
        check.dueTold(x, 1, 6, 3);
    }

    private static void rampFromWhatItWas() {
        EngineCell x = running(1, 1, 1000, 500, 1, 3, 900, 499, 1, 2, 901, 502);
        x.tick(6);
        int[] speeds = {0, 1000, 967, 934, 900, 900, 901};
        int[] pedals = {0, 500, 500, 500, 499, 500, 502};
        for (int tick = 0; tick < 7; tick++) {
            check.due("WANTED SPEED at " + tick, x.was(tick, 5), speeds[tick]);
            check.due("PEDAL at " + tick, x.was(tick, 6), pedals[tick]);
        }
    }

    private static void rampByLoop() {
        EngineCell x = running(1, 2, 100, 0, 3, 0, 1, 0);
        x.tick(4);
        int[] speeds = {0, 50, 100, 100, 100};
        for (int tick = 0; tick < 5; tick++) {
            check.due("WANTED SPEED at " + tick, x.was(tick, 5), speeds[tick]);
        }
    }

    private static void waitTillReading() {
        EngineCell x = with(1, 1, 1000, 0, 2, 0, 500, 50, 4, 0, 0, 0, 0, 1, 0, 0);
        x.lag(1);
        x.channel(0, 4, 2, 0, 8000);
        x.start();
        // SPEED is 1000 from TICK 1 on; the readings at 0 (LOST), 4 (of TICK 2): seen in TICK 5
        check.due("tick(4)", x.tick(4), 4);
        check.dueTold(x, 1, 4, 1, NONE, 0, 0);
        x.tick(1);
        check.dueTold(x, 1, 5, 4, NONE, 0, 1);
        check.due("mark(0)", x.mark(0), 5);
    }

    private static void waitTooLong() {
        EngineCell x = with(2, 0, 501, 3);
        x.channel(0, 1, 0, 0, 8000);
        x.start();
        check.due("tick(3)", x.tick(3), 3);
        check.dueTold(x, 1, 3, 0, NONE);
        x.tick(1);
        check.dueTold(x, 2, 4, 0, 2, 1);
        check.due("WANTED SPEED", x.was(4, 5), 800);
        // the reading comes in the very TICK in which it has waited long enough
        EngineCell y = with(1, 1, 1000, 0, 2, 0, 1000, 1, 4, 0, 0, 0);
        y.lag(1);
        y.channel(0, 2, 0, 0, 8000);
        y.start();
        y.tick(3);
        check.dueTold(y, 2, 3, 3, 0, 1, 1);
    }

    private static void waitWithoutChannel() {
        EngineCell x = running(0, 1, 0, 0, 2, 0, MIN, 500);
        x.tick(2);
        check.dueTold(x, 2, 2, 1, 2, 1);
        EngineCell y = running(2, -1, MIN, 500);
        y.tick(1);
        check.dueTold(y, 2, 1, 0, 2, 1);
    }

    private static void waitIsCounted() {
        // each time it is come to anew: its c TICKS begin anew
        EngineCell x = with(1, 1, 0, 0, 2, 0, 100, 3, 1, 1, 0, 0, 3, 0, 1, 0);
        x.channel(0, 1, 0, 0, 8000);
        x.correct(0, 4, 1000, 100);
        x.correct(0, 5, 1000, 0);
        x.correct(0, 9, 1000, 100);
        x.lag(1);
        x.start();
        // waits in 2, 3, 4; RAMP in 5; again RAMP 6, waits 7, 8, 9; RAMP 10; at its end in 11
        x.tick(10);
        check.dueTold(x, 1, 10, 3, NONE);
        x.tick(1);
        check.dueTold(x, 2, 11, 4, 0, 1);
    }

    private static void waitSkipsLost() {
        EngineCell x = with(2, 0, MIN, 5);
        x.channel(0, 1, 0, 0, 8000);
        x.lose(0, 0, 2);
        x.start();
        x.tick(3);
        check.dueTold(x, 1, 3, 0);
        x.tick(1);
        check.dueTold(x, 2, 4, 1, 0);
        // the latest one is LOST: the one ahead of it is not looked at
        EngineCell y = with(0, 2, 0, 0, 2, 0, MIN, 1);
        y.channel(0, 2, 0, 0, 8000);
        y.lose(0, 2, 2);
        y.start();
        y.tick(4);
        check.dueTold(y, 2, 4, 1, 2, 1);
    }

    private static void waitByCorrection() {
        EngineCell x = with(2, 0, 41, 5);
        x.channel(3, 1, 0, 0, 8000);
        x.correct(0, 0, 2000, 0);
        x.start();
        x.tick(1);
        check.dueTold(x, 1, 1, 0);
        x.correct(0, 0, 2000, 1);
        x.tick(1);
        check.dueTold(x, 2, 2, 1, 0);
    }

    private static void loopsInLoops() {
        EngineCell x = running(0, 1, 0, 0, 3, 0, 2, 0, 4, 0, 0, 0, 3, 0, 1, 0);
        check.due("tick(100)", x.tick(100), 16);
        check.dueTold(x, 3, 16, 4, 0, 10, 2);
        check.due("mark(0)", x.mark(0), 4);
        check.due("mark(1)", x.mark(1), 7);
    }

    private static void loopToItself() {
        EngineCell x = running(3, 0, 48, 0, 0, 2, 0, 0);
        x.tick(1);
        check.dueTold(x, 1, 1, 1, NONE);
        EngineCell y = running(3, 0, 49, 0, 0, 2, 0, 0);
        y.tick(1);
        check.dueTold(y, 2, 1, 1, 3, 1);
        // its count is 0 again with start()
        EngineCell z = with(3, 0, 60, 0);
        for (int round = 0; round < 2; round++) {
            z.start();
            z.tick(10);
            check.dueTold(z, 3, 10, 0, 3, 10);
            z.reset();
        }
    }

    private static void loopAsTheLastStep() {
        EngineCell x = new EngineCell();
        for (int s = 0; s < 29; s++) {
            step(x, 0, 1, 0, 0, s);
        }
        step(x, 3, 28, 2, 0, 29);
        x.start();
        check.due("tick(100)", x.tick(100), 29 + 2 + 10);
        check.dueTold(x, 3, 41, 30, 0);
    }

    private static void fiftySteps() {
        EngineCell x = running(4, 0, 0, 0, 3, 0, 100, 0);
        check.due("tick(100)", x.tick(100), 10);
        check.dueTold(x, 3, 10, 0, 3, 10, 20);
        check.due("mark(19)", x.mark(19), 1);
    }

    private static void fiftyStepsAndTheEnd() {
        // 25 MARKS and 25 LOOPS, then the end, which is no STEP
        EngineCell x = running(4, 0, 0, 0, 3, 0, 24, 0);
        x.tick(1);
        check.dueTold(x, 2, 1, 2, 0, 1, 20);
        EngineCell y = running(4, 0, 0, 0, 3, 0, 24, 0, 4, 0, 0, 0);
        y.tick(1);
        check.dueTold(y, 2, 1, 2, 3, 1, 20);
    }

    private static void fiftyStepsAndAHold() {
        // the HOLD is the 50th, and the one at which the TICK stays
        EngineCell x = running(4, 0, 0, 0, 4, 0, 0, 0, 3, 1, 23, 0, 0, 5, 0, 0);
        x.tick(1);
        check.dueTold(x, 1, 1, 3, NONE);
        EngineCell y = running(4, 0, 0, 0, 4, 0, 0, 0, 3, 1, 23, 0, 4, 0, 0, 0, 0, 5, 0, 0);
        y.tick(1);
        check.dueTold(y, 2, 1, 4, 3);
    }

    private static void lastActs() {
        EngineCell x = running(1, 1, 8000, 1000);
        x.tick(1);
        x.tick(100);
        check.dueTold(x, 3, 11, 1, 0, 10);
        for (int tick = 2; tick < 12; tick++) {
            check.due("WANTED SPEED at " + tick, x.was(tick, 5), 800);
            check.due("PEDAL at " + tick, x.was(tick, 6), 0);
        }
        EngineCell y = running(1, 5, 8000, 1000);
        y.tick(2);
        y.stop();
        y.tick(9);
        check.dueTold(y, 2, 11, 0, 4, 9);
        check.due("PEDAL at 2", y.was(2, 6), 400);
        check.due("PEDAL at 3", y.was(3, 6), 0);
        y.tick(1);
        check.dueTold(y, 3, 12, 0, 4, 10);
    }

    private static void limitsStopAsATickEnds() {
        EngineCell x = with(1, 10, 1000, 0);
        x.lag(1);
        x.channel(4, 1, 0, 0, 10000);
        x.channel(0, 2, 0, 0, 10000);
        check.due("limit", x.limit(1, 300), 1);
        x.start();
        // 300 at TICK 3 is no reading, 400 at TICK 4 is above
        check.due("tick(3)", x.tick(3), 3);
        check.dueTold(x, 1, 3, 0, NONE, 0);
        x.tick(1);
        check.dueTold(x, 2, 4, 0, 1, 0);
        check.due("WANTED SPEED at 4", x.was(4, 5), 400);
        check.due("tick(100)", x.tick(100), 10);
        check.due("WANTED SPEED at 5", x.was(5, 5), 800);
        x.reset();
        x.limit(1, 400);
        x.start();
        x.tick(5);
        check.dueTold(x, 1, 5);
        x.lose(1, 6, 6);
        x.tick(2);
        check.dueTold(x, 1, 7);
        x.correct(1, 8, 500, 0);
        x.tick(1);
        check.dueTold(x, 1, 8);
        x.correct(1, 0, 400, 1);
        x.tick(2);
        check.dueTold(x, 2, 10, 1, 1, 0);
    }

    private static void limitsDoNotCountInLastActs() {
        EngineCell x = with(0, 1, 0, 0);
        x.lag(1);
        x.channel(0, 1, 0, 0, 10000);
        x.limit(0, 0);
        x.start();
        x.tick(100);
        check.dueTold(x, 3, 11, 1, 0, 10);
        EngineCell y = with(0, 5, 0, 0);
        y.lag(1);
        y.channel(0, 1, 0, 0, 10000);
        y.limit(0, -1);
        y.start();
        check.due("tick(100)", y.tick(100), 11);
        check.dueTold(y, 3, 11, 0, 1, 10);
    }
}
