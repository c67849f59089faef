/**
 * The borders that the document's sentences draw besides ranges and rows: what is at, just above or just
 * below a number; the first and the last TICK of something; quotients cut toward 0; what wraps.
 */
public final class BordersTest {
    private static final int UNKNOWN = -1, NONE = -9;
    private static final long LOST = Long.MIN_VALUE;
    private static final int MIN = Integer.MIN_VALUE, MAX = Integer.MAX_VALUE;
    private static final Check check = new Check();

    public static void main(String[] args) {
        torqueAtTheBordersOfFields();
        torqueOfTheRightField();
        torqueIsCutTowardZero();
        theEngineAtTickZero();
        speedIsCutTowardZero();
        speedGoesOneTowardIt();
        fuelAtZero();
        fuelIsCutTowardZero();
        heatIsCutTowardZero();
        smokeByTheTorque();
        smokeIsHalved();
        rampFirstAndLast();
        rampIsCutTowardZero();
        holdKeepsWhatItWas();
        waitAtTheNumber();
        waitLooksAheadOfThisTick();
        waitAtTheLastOfItsTicks();
        waitOfALostReading();
        waitDoesNotLookBehindTheLatest();
        waitByTheLatestReading();
        waitOfNoChannel();
        waitsCountAnew();
        loopLedBackAndOn();
        loopIsCountedAnew();
        markIsOfThisTick();
        stepsBehindTheEnd();
        theEndIsNoStep();
        limitAtAndAbove();
        limitBelowZero();
        limitOfALostReading();
        limitOfAnotherTick();
        limitOfTheLatestTold();
        limitAsCorrectedWhenAsked();
        limitInTheLastTick();
        limitInTheTickOfItsEnd();
        lastActsBeginByKinds();
        lastActsDoNothingElse();
        stopBetweenTicks();
        resetKeepsAndForgets();
        resetForgetsWhatWasWanted();
        startBeginsAnew();
        startSetsEachLoopsCount();
        check.close("BordersTest");
    }

    private static EngineCell with(int... steps) {
        EngineCell x = new EngineCell();
        for (int i = 0; i < steps.length; i += 4) {
            check.due("step", x.step(steps[i], steps[i + 1], steps[i + 2], steps[i + 3]), i / 4);
        }
        return x;
    }

    private static EngineCell running(int... steps) {
        EngineCell x = with(steps);
        check.due("start()", x.start(), 1);
        return x;
    }

    /** SPEED is WANTED SPEED at once, and CHANNEL 0 reads it. */
    private static EngineCell read(EngineCell x) {
        x.lag(1);
        check.due("channel", x.channel(0, 1, 0, -10000, 10000), 0);
        return x;
    }

    /** In TICK t the SPEED is 100 t, up to TICK 10; there is a MARK at TICK 1. */
    private static EngineCell rising() {
        return read(with(4, 0, 0, 0, 1, 10, 1000, 0, 0, 500, 0, 0));
    }

    // ---- 1 the engine

    private static void torqueAtTheBordersOfFields() {
        EngineCell x = new EngineCell();
        for (int k = 0; k < 25; k++) x.map(k, 40 * k - 500);
        // a number is 200 more for each 2000 of speed, 40 more for each 250 of pedal: a tenth, 4 by 25
        for (int border = 2000; border <= 6000; border += 2000) {
            check.due("below a border", x.torque(border - 10, 0), border / 10 - 501);
            check.due("at a border", x.torque(border, 0), border / 10 - 500);
            check.due("above a border", x.torque(border + 10, 0), border / 10 - 499);
        }
        for (int border = 250; border <= 750; border += 250) {
            check.due("below a border", x.torque(8000, border - 25), 300 + (border - 25) * 4 / 25);
            check.due("at a border", x.torque(8000, border), 300 + border * 4 / 25);
            check.due("above a border", x.torque(8000, border + 25), 300 + (border + 25) * 4 / 25);
        }
        check.due("torque(0, 0)", x.torque(0, 0), -500);
        check.due("torque(8000, 0)", x.torque(8000, 0), 300);
        check.due("torque(0, 1000)", x.torque(0, 1000), -340);
        check.due("torque(8000, 1000)", x.torque(8000, 1000), 460);
    }

    /** At a border the next field begins: by peaks, since beside a slope both fields give the same. */
    private static void torqueOfTheRightField() {
        for (int peak = 1; peak <= 4; peak++) {
            EngineCell x = new EngineCell();
            EngineCell y = new EngineCell();
            for (int j = 0; j < 5; j++) x.map(5 * peak + j, 1000);
            for (int i = 0; i < 5; i++) y.map(5 * i + peak, 1000);
            for (int pedal = 0; pedal <= 1000; pedal += 250) {
                check.due("1 below the speed", x.torque(2000 * peak - 1, pedal), 999);
                check.due("at the speed", x.torque(2000 * peak, pedal), 1000);
                if (peak < 4) check.due("1 above the speed", x.torque(2000 * peak + 1, pedal), 999);
            }
            for (int speed = 0; speed <= 8000; speed += 2000) {
                check.due("1 below the pedal", y.torque(speed, 250 * peak - 1), 996);
                check.due("at the pedal", y.torque(speed, 250 * peak), 1000);
                if (peak < 4) check.due("1 above the pedal", y.torque(speed, 250 * peak + 1), 996);
            }
        }
    }

    private static void torqueIsCutTowardZero() {
        EngineCell x = new EngineCell();
        x.map(0, 1);
        check.due("all but 1", x.torque(1, 0), 0);
        x.map(0, -1);
        check.due("all but -1", x.torque(1, 0), 0);
        x.map(1, -1);
        check.due("-1 between", x.torque(0, 100), -1);
        x.map(0, -500);
        x.map(1, 1000);
        check.due("torque(0, 1)", x.torque(0, 1), -494);
        check.due("torque(0, 249)", x.torque(0, 249), 994);
        check.due("torque(0, 83)", x.torque(0, 83), -2);
        check.due("torque(0, 84)", x.torque(0, 84), 4);
        // a hair below 1000: 2 times 500000 less 2 are missing to 2000 times 500000
        for (int k = 0; k < 25; k++) x.map(k, k == 6 ? 999 : 1000);
        check.due("torque(2, 1)", x.torque(2, 1), 999);
    }

    private static void theEngineAtTickZero() {
        EngineCell x = new EngineCell();
        for (int k = 0; k < 25; k++) x.map(k, 700);
        check.dueTick(x, 0, 0, 0, 0, 20, 0, 0, 0);
        x.step(0, 1, 0, 0);
        x.start();
        check.dueTick(x, 0, 0, 0, 0, 20, 0, 0, 0);
        x.tick(1);
        check.dueTick(x, 0, 0, 0, 0, 20, 0, 0, 0);
        check.dueTick(x, 1, 0, 700, 0, 20, 2100, 0, 0);
    }

    private static void speedIsCutTowardZero() {
        EngineCell x = with(1, 1, 4003, 0, 1, 1, 0, 0, 0, 9, 0, 0);
        x.lag(20);
        x.start();
        x.tick(3);
        // 4003 by 20; -200 by 20; -190 by 20
        check.due("SPEED", x.was(1, 0), 200);
        check.due("SPEED", x.was(2, 0), 190);
        check.due("SPEED", x.was(3, 0), 181);
    }

    private static void speedGoesOneTowardIt() {
        EngineCell x = with(1, 1, 20, 0, 1, 1, 20, 0, 1, 1, 1, 0, 0, 9, 0, 0);
        x.lag(20);
        x.start();
        x.tick(4);
        // 20 by 20 is 1; 19 by 20 is 0; to itself; below it
        check.due("SPEED", x.was(1, 0), 1);
        check.due("SPEED", x.was(2, 0), 2);
        check.due("SPEED", x.was(3, 0), 1);
        check.due("SPEED that is as wanted", x.was(4, 0), 1);
        EngineCell y = with(1, 1, 10, 0, 1, 1, 0, 0, 0, 9, 0, 0);
        y.lag(1);
        y.start();
        y.tick(3);
        check.due("SPEED", y.was(2, 0), 0);
        check.due("SPEED that is as wanted", y.was(3, 0), 0);
    }

    /** The FUEL at a SPEED, where TORQUE is everywhere the same. */
    private static int fuel(int speed, int torque) {
        EngineCell x = new EngineCell();
        for (int k = 0; k < 25; k++) x.map(k, torque);
        x.lag(1);
        x.step(1, 1, speed, 0);
        x.start();
        x.tick(1);
        return x.was(1, 2);
    }

    private static void fuelAtZero() {
        check.due("TORQUE -49", fuel(1000, -49), 1);
        check.due("TORQUE -50", fuel(1000, -50), 0);
        check.due("TORQUE -51", fuel(1000, -51), 0);
        check.due("TORQUE -500", fuel(8000, -500), 0);
        check.due("SPEED 0", fuel(0, 1000), 0);
    }

    private static void fuelIsCutTowardZero() {
        check.due("999 by 1000", fuel(999, -49), 0);
        check.due("1999 by 1000", fuel(1999, -49), 1);
        check.due("the greatest", fuel(8000, 1000), 8400);
    }

    private static void heatIsCutTowardZero() {
        EngineCell x = new EngineCell();
        x.lag(1);
        x.step(1, 1, 320, 0);
        x.step(1, 1, 319, 0);
        x.step(1, 1, 0, 0);
        x.step(0, 500, 0, 0);
        x.start();
        x.tick(3);
        // 16 by 16; 15 less 2 by 16; nothing less 2 by 16
        check.due("FUEL", x.was(1, 2), 16);
        check.due("HEAT", x.was(1, 3), 21);
        check.due("HEAT", x.was(2, 3), 21);
        check.due("HEAT", x.was(3, 3), 21);
        EngineCell y = new EngineCell();
        y.lag(1);
        for (int k = 0; k < 25; k++) y.map(k, -50);
        y.map(5, 62);
        y.step(1, 1, 2000, 0);
        y.step(0, 1, 0, 0);
        y.step(1, 1, 0, 0);
        y.step(0, 500, 0, 0);
        y.start();
        y.tick(40);
        // 224 by 16; 224 less 28 by 16; from 46 on -52, -46, -42 .. by 16, until 27: -14 by 16 is 0
        int[] due = {20, 34, 46, 43, 41, 39, 37, 35, 34, 33, 32, 31, 30, 29, 28, 27, 27, 27};
        for (int tick = 0; tick < due.length; tick++) check.due("HEAT at " + tick, y.was(tick, 3), due[tick]);
        check.due("HEAT at 40", y.was(40, 3), 27);
    }

    /** SMOKE at each TICK, where the TORQUE at it is the PEDAL. */
    private static void dueSmoke(int[] torques, int[] smokes) {
        EngineCell x = new EngineCell();
        for (int k = 0; k < 25; k++) x.map(k, 250 * (k % 5));
        for (int torque : torques) x.step(1, 1, 0, torque);
        x.start();
        x.tick(torques.length);
        for (int tick = 1; tick <= torques.length; tick++) {
            check.due("TORQUE at " + tick, x.was(tick, 1), torques[tick - 1]);
            check.due("SMOKE at " + tick, x.was(tick, 4), smokes[tick - 1]);
        }
    }

    private static void smokeByTheTorque() {
        dueSmoke(new int[] {100, 101, 101, 100, 102, 102}, new int[] {300, 3, 1, 0, 6, 3});
        dueSmoke(new int[] {0, 1000, 999, 1000}, new int[] {0, 3000, 1500, 3});
    }

    private static void smokeIsHalved() {
        dueSmoke(new int[] {5, 5, 5, 5, 5, 5}, new int[] {15, 7, 3, 1, 0, 0});
    }

    // ---- 2 the program

    private static void rampFirstAndLast() {
        EngineCell x = running(1, 4, 1000, 100, 1, 2, 1000, 100, 1, 4, 0, 0, 0, 5, 0, 0);
        x.tick(11);
        int[] speeds = {0, 250, 500, 750, 1000, 1000, 1000, 750, 500, 250, 0, 0};
        for (int tick = 0; tick <= 11; tick++) {
            check.due("WANTED SPEED at " + tick, x.was(tick, 5), speeds[tick]);
            check.due("PEDAL at " + tick, x.was(tick, 6), speeds[tick] / 10);
        }
    }

    private static void rampIsCutTowardZero() {
        EngineCell x = running(1, 3, 2, 1, 1, 3, 0, 0, 0, 1, 0, 0);
        x.tick(7);
        // 2 by 3, 4 by 3, 2; then less 2 by 3, 4 by 3, 2
        int[] speeds = {0, 0, 1, 2, 2, 1, 0, 0};
        int[] pedals = {0, 0, 0, 1, 1, 1, 0, 0};
        for (int tick = 0; tick <= 7; tick++) {
            check.due("WANTED SPEED at " + tick, x.was(tick, 5), speeds[tick]);
            check.due("PEDAL at " + tick, x.was(tick, 6), pedals[tick]);
        }
    }

    private static void holdKeepsWhatItWas() {
        EngineCell x = with(1, 1, 900, 90, 0, 2, 5, 5, 2, 0, 5000, 2, 0, 1, 0, 0);
        x.channel(0, 1, 0, 0, 8000);
        x.start();
        x.tick(5);
        for (int tick = 1; tick <= 5; tick++) {
            check.due("WANTED SPEED at " + tick, x.was(tick, 5), 900);
            check.due("PEDAL at " + tick, x.was(tick, 6), 90);
        }
    }

    private static EngineCell waitingFor(int number, int length) {
        EngineCell x = read(with(1, 1, 300, 0, 2, 0, number, length, 4, 0, 0, 0, 0, 9, 0, 0));
        x.start();
        return x;
    }

    private static void waitAtTheNumber() {
        EngineCell x = waitingFor(300, 5);
        x.tick(2);
        check.dueTold(x, 1, 2, 3, NONE, 0, 1);
        EngineCell y = waitingFor(301, 5);
        y.tick(2);
        check.dueTold(y, 1, 2, 1, NONE, 0, 0);
        EngineCell z = waitingFor(MIN, 5);
        z.tick(2);
        check.dueTold(z, 1, 2, 3, NONE, 0, 1);
        EngineCell w = waitingFor(MAX, 5);
        w.tick(6);
        check.dueTold(w, 1, 6, 1, NONE, 0, 0);
        w.tick(1);
        check.dueTold(w, 2, 7, 1, 2, 1, 0);
    }

    private static void waitLooksAheadOfThisTick() {
        // as the first STEP: TICK 0's reading is there
        EngineCell x = with(2, 0, 20, 5, 0, 9, 0, 0);
        x.channel(3, 20, 0, 0, 100);
        x.start();
        x.tick(1);
        check.dueTold(x, 1, 1, 1);
        // a TICK's own reading is not there as it begins: 300 is of TICK 1
        EngineCell y = read(with(1, 2, 300, 0, 2, 0, 300, 9, 0, 9, 0, 0));
        y.start();
        y.tick(2);
        check.dueTold(y, 1, 2, 1);
        y.tick(1);
        check.dueTold(y, 1, 3, 2);
        // of TICK 4 at RATE 4: seen in TICK 5, not in TICK 4
        EngineCell z = with(2, 0, 20, 9, 0, 9, 0, 0);
        z.channel(3, 4, 4, 0, 100);
        z.start();
        z.tick(4);
        check.dueTold(z, 1, 4, 0);
        z.tick(1);
        check.dueTold(z, 1, 5, 1);
    }

    private static void waitAtTheLastOfItsTicks() {
        // SPEED 300 is of TICK 3; each WAIT begins in TICK 1
        int[] lengths = {2, 3, 4};
        for (int c : lengths) {
            EngineCell x = with(2, 0, 3, c, 4, 0, 0, 0, 0, 9, 0, 0);
            x.channel(3, 1, 3, -5, 5);
            x.start();
            x.tick(c > 3 ? 3 : c);
            check.dueTold(x, 1, Math.min(c, 3), 0, NONE, 0, 0);
            x.tick(1);
            if (c == 2) check.dueTold(x, 2, 3, 0, 2, 1, 0);
            // it has waited c TICKS and the reading is there: the reading is looked at first
            else check.dueTold(x, 1, 4, 2, NONE, 0, 1);
        }
    }

    private static void waitOfALostReading() {
        EngineCell x = with(2, 0, MIN, 3, 0, 9, 0, 0);
        x.channel(3, 1, 0, 0, 100);
        x.lose(0, 0, 0);
        x.start();
        x.tick(1);
        check.dueTold(x, 1, 1, 0);
        x.tick(1);
        check.dueTold(x, 1, 2, 1);
        EngineCell y = with(2, 0, MIN, 3, 0, 9, 0, 0);
        y.channel(3, 1, 20, 0, 100);
        y.start();
        y.tick(4);
        check.dueTold(y, 2, 4, 0, 2, 1);
    }

    private static void waitDoesNotLookBehindTheLatest() {
        // that of TICK 2 is LOST: that of TICK 1 would do, but isn't the latest one
        EngineCell x = read(with(0, 2, 0, 0, 2, 0, MIN, 1, 0, 9, 0, 0));
        x.lose(0, 2, 3);
        x.start();
        x.tick(4);
        check.dueTold(x, 2, 4, 1, 2, 1);
    }

    private static void waitByTheLatestReading() {
        // of RATE 3: in TICKS 4 to 6 the reading of TICK 3 is the latest one
        EngineCell x = with(1, 3, 600, 0, 1, 1, 0, 0, 0, 1, 0, 0, 2, 0, 600, 9, 0, 9, 0, 0);
        x.lag(1);
        x.channel(0, 3, 0, 0, 8000);
        x.start();
        x.tick(6);
        check.dueTold(x, 1, 6, 4);
        // one TICK later that of TICK 6 is, and SPEED was 0
        EngineCell y = with(1, 3, 600, 0, 1, 1, 0, 0, 0, 2, 0, 0, 2, 0, 600, 9, 0, 9, 0, 0);
        y.lag(1);
        y.channel(0, 3, 0, 0, 8000);
        y.start();
        y.tick(7);
        check.dueTold(y, 1, 7, 3);
    }

    private static void waitOfNoChannel() {
        int[] channels = {-1, 1, 8, MIN, MAX};
        for (int c : channels) {
            EngineCell x = read(with(0, 1, 0, 0, 2, c, MIN, 500, 0, 1, 0, 0));
            x.start();
            x.tick(1);
            check.dueTold(x, 1, 1, 1, NONE, 0);
            x.tick(1);
            check.dueTold(x, 2, 2, 1, 2, 1);
        }
        // as it is come to, not as it is told: CHANNEL 1 was made behind the STEP
        EngineCell y = read(with(2, 1, 0, 500, 0, 1, 0, 0));
        y.channel(0, 1, 0, 0, 1);
        y.start();
        y.tick(1);
        check.dueTold(y, 1, 1, 2);
    }

    private static void waitsCountAnew() {
        // two of 2 TICKS, one behind the other: neither waits for the other's
        EngineCell x = read(with(2, 0, 1, 2, 2, 0, 2, 2, 0, 9, 0, 0));
        x.correct(0, 2, 1000, 1);
        x.correct(0, 4, 1000, 2);
        x.start();
        // TICKS 1, 2; in 3 the reading is 1: TICKS 3, 4; in 5 it is 2
        x.tick(2);
        check.dueTold(x, 1, 2, 0);
        x.tick(2);
        check.dueTold(x, 1, 4, 1);
        x.tick(1);
        check.dueTold(x, 1, 5, 2);
    }

    private static void loopLedBackAndOn() {
        EngineCell x = running(0, 1, 0, 0, 3, 0, 2, 0, 0, 1, 0, 0);
        x.tick(3);
        check.dueTold(x, 1, 3, 1, NONE);
        // it led back twice: now to the next one
        x.tick(1);
        check.dueTold(x, 1, 4, 3, NONE);
        x.tick(1);
        check.dueTold(x, 2, 5, 3, 0, 1);
    }

    private static void loopIsCountedAnew() {
        // the inner one leads back once for each round of the outer one
        EngineCell x = running(4, 0, 0, 0, 0, 1, 0, 0, 3, 1, 1, 0, 3, 0, 2, 0);
        check.due("tick(1000)", x.tick(1000), 16);
        check.due("told(5)", x.told(5), 3);
        for (int m = 0; m < 3; m++) check.due("mark(" + m + ")", x.mark(m), 1 + 2 * m);
    }

    private static void markIsOfThisTick() {
        EngineCell x = running(4, 0, 0, 0, 0, 2, 0, 0, 4, 0, 0, 0);
        x.tick(1);
        check.due("mark(0)", x.mark(0), 1);
        x.tick(1);
        check.due("told(5)", x.told(5), 1);
        // behind the last STEP: the TICK is a MARK and the first of the LAST ACTS
        x.tick(1);
        check.due("mark(1)", x.mark(1), 3);
        check.dueTold(x, 2, 3, 3, 0, 1, 2);
    }

    private static void stepsBehindTheEnd() {
        // of a program that was longer nothing is left
        EngineCell x = with(0, 1, 0, 0, 0, 5, 0, 0);
        x.clear();
        x.step(0, 2, 0, 0);
        x.start();
        check.due("tick(1000)", x.tick(1000), 12);
        check.dueTold(x, 3, 12, 1, 0, 10);
    }

    private static void theEndIsNoStep() {
        // a LOOP to itself is gone through once more than it leads back
        EngineCell x = running(3, 0, 49, 0);
        x.tick(1);
        check.dueTold(x, 2, 1, 1, 0, 1);
        EngineCell y = running(3, 0, 50, 0);
        y.tick(1);
        check.dueTold(y, 2, 1, 0, 3, 1);
    }

    // ---- LIMITS, STOP

    private static void dueStop(EngineCell x, int tick) {
        check.due("start()", x.start(), 1);
        x.tick(tick - 1);
        check.dueTold(x, 1, tick - 1);
        x.tick(1);
        check.due("told(0) at " + tick, x.told(0), 2);
        check.due("told(1)", x.told(1), tick);
        check.due("told(3)", x.told(3), 1);
        check.due("told(4)", x.told(4), 0);
    }

    private static void limitAtAndAbove() {
        int[] limits = {299, 300, 399};
        int[] ticks = {3, 4, 4};
        for (int i = 0; i < 3; i++) {
            EngineCell x = rising();
            x.limit(0, limits[i]);
            dueStop(x, ticks[i]);
        }
    }

    private static void limitBelowZero() {
        EngineCell x = rising();
        x.correct(0, 0, 1000, -500);
        x.limit(0, -101);
        // -100 at TICK 4
        dueStop(x, 4);
        // 0 is above -1, and not above 0
        EngineCell z = read(with(0, 500, 0, 0));
        z.limit(0, -1);
        dueStop(z, 1);
        EngineCell w = read(with(0, 500, 0, 0));
        w.limit(0, 0);
        w.start();
        check.due("tick(100)", w.tick(100), 100);
        EngineCell y = rising();
        y.limit(0, 30000);
        y.correct(0, 0, 2000, 1000);
        y.start();
        check.due("tick(100)", y.tick(100), 100);
    }

    private static void limitOfALostReading() {
        EngineCell x = rising();
        x.limit(0, 299);
        x.lose(0, 2, 5);
        dueStop(x, 6);
        // at DELAY 20 the readings up to TICK 19 are LOST
        EngineCell y = with(0, 50, 0, 0);
        y.channel(3, 1, 20, 0, 100);
        y.limit(0, -30000);
        dueStop(y, 20);
    }

    private static void limitOfAnotherTick() {
        EngineCell x = with(1, 10, 1000, 0, 0, 9, 0, 0);
        x.lag(1);
        x.channel(0, 5, 0, 0, 8000);
        x.limit(0, 50);
        // above it from TICK 1 on, a reading is of TICK 5
        dueStop(x, 5);
        // TICK 0 does not end: its reading counts for none
        EngineCell y = with(0, 50, 0, 0);
        y.channel(3, 20, 0, 0, 100);
        y.limit(0, 0);
        dueStop(y, 20);
    }

    private static void limitOfTheLatestTold() {
        EngineCell x = rising();
        x.channel(0, 1, 0, 0, 10000);
        x.limit(0, 150);
        x.limit(0, 450);
        dueStop(x, 5);
        // each CHANNEL has its own
        EngineCell y = rising();
        y.channel(0, 1, 0, 0, 10000);
        y.limit(0, 450);
        y.limit(1, 250);
        dueStop(y, 3);
    }

    private static void limitAsCorrectedWhenAsked() {
        EngineCell x = rising();
        x.limit(0, 500);
        x.correct(0, 0, 2000, 0);
        // 600 at TICK 3
        dueStop(x, 3);
        // what a CORRECTION would have made of TICKS that were stops nothing
        EngineCell y = rising();
        y.limit(0, 1000);
        y.start();
        y.tick(8);
        y.correct(0, 8, 1000, 1000);
        y.correct(0, 9, 500, 0);
        check.due("reading(0, 8)", y.reading(0, 8), 1800);
        y.tick(4);
        check.due("told(0)", y.told(0), 1);
    }

    private static void limitInTheLastTick() {
        // the HOLD's last TICK, behind which the end would be come to
        EngineCell x = read(with(1, 1, 100, 0, 0, 1, 0, 0));
        x.correct(0, 2, 1000, 1);
        x.limit(0, 100);
        dueStop(x, 2);
        check.due("told(2)", x.told(2), 2);
        check.due("tick(1000)", x.tick(1000), 10);
        check.dueTold(x, 3, 12, 2, 1, 10);
    }

    private static void limitInTheTickOfItsEnd() {
        // the TICK that comes to the end is a LAST ACT: in it no LIMIT counts
        EngineCell x = read(with(0, 1, 0, 0));
        x.limit(0, 0);
        x.start();
        check.due("tick(1000)", x.tick(1000), 11);
        check.due("SPEED", x.was(2, 0), 800);
        check.dueTold(x, 3, 11, 1, 0, 10);
    }

    /** PEDAL and WANTED SPEED at the TICK ahead of the LAST ACTS, and at the ten. */
    private static void dueLastActs(EngineCell x, int first, int speed, int pedal) {
        check.due("WANTED SPEED ahead of them", x.was(first - 1, 5), speed);
        check.due("PEDAL ahead of them", x.was(first - 1, 6), pedal);
        for (int tick = first; tick < first + 10; tick++) {
            check.due("WANTED SPEED at " + tick, x.was(tick, 5), 800);
            check.due("PEDAL at " + tick, x.was(tick, 6), 0);
        }
        check.due("told(1)", x.told(1), first + 9);
        check.due("told(0)", x.told(0), 3);
        check.due("told(4)", x.told(4), 10);
    }

    private static void lastActsBeginByKinds() {
        EngineCell end = running(1, 3, 3000, 300);
        end.tick(1000);
        check.due("told(3)", end.told(3), 0);
        dueLastActs(end, 4, 3000, 300);
        EngineCell limited = read(with(1, 3, 3000, 300, 0, 9, 0, 0));
        limited.limit(0, 1999);
        limited.start();
        limited.tick(1000);
        check.due("told(3)", limited.told(3), 1);
        dueLastActs(limited, 3, 2000, 200);
        EngineCell waited = read(with(1, 3, 3000, 300, 2, 0, 9999, 2));
        waited.start();
        waited.tick(1000);
        check.due("told(3)", waited.told(3), 2);
        dueLastActs(waited, 6, 3000, 300);
        EngineCell longer = running(1, 3, 3000, 300, 3, 1, 100, 0);
        longer.tick(1000);
        check.due("told(3)", longer.told(3), 3);
        dueLastActs(longer, 4, 3000, 300);
        EngineCell byHand = running(1, 3, 3000, 300);
        byHand.tick(2);
        byHand.stop();
        byHand.tick(1000);
        check.due("told(3)", byHand.told(3), 4);
        dueLastActs(byHand, 3, 2000, 200);
    }

    private static void lastActsDoNothingElse() {
        // what is kept is the first STOP's; no MARK is made, no LIMIT stops them
        EngineCell x = read(with(4, 0, 0, 0, 0, 1, 0, 0, 3, 0, 100, 0));
        x.start();
        x.tick(3);
        x.stop();
        x.limit(0, -1);
        x.tick(1000);
        check.dueTold(x, 3, 13, 2, 4, 10, 3);
    }

    private static void stopBetweenTicks() {
        // at TICK 0, and in the middle of a WAIT
        EngineCell x = running(0, 5, 0, 0);
        check.due("stop()", x.stop(), 1);
        check.dueTold(x, 2, 0, 0, 4, 0);
        x.tick(1);
        check.due("WANTED SPEED", x.was(1, 5), 800);
        EngineCell y = read(with(2, 0, 5, 5));
        y.start();
        y.tick(2);
        y.stop();
        y.tick(3);
        check.dueTold(y, 2, 5, 0, 4, 3);
    }

    private static void resetKeepsAndForgets() {
        EngineCell x = rising();
        x.limit(0, 500);
        x.lose(0, 1, 1);
        x.correct(0, 2, 1000, 7);
        x.start();
        x.tick(1000);
        check.dueTold(x, 3, 15, 1, 1, 10, 1, 3, 1, 1, 1);
        check.due("reset()", x.reset(), 15);
        check.dueTold(x, 0, 0, 0, NONE, 0, 0, 3, 1, 1, 1);
        check.dueTick(x, 0, 0, 0, 0, 20, 0, 0, 0);
        check.due("was(1, 0)", x.was(1, 0), UNKNOWN);
        check.due("mark(0)", x.mark(0), UNKNOWN);
        check.due("report", x.report(0, 0, 0), LOST);
        check.due("reading", x.reading(0, 0), 0);
        check.due("reading(0, 1)", x.reading(0, 1), LOST);
        check.due("state(0, 1)", x.state(0, 1), UNKNOWN);
        check.due("law", x.law(0, 0), 1);
        // again OFF: of a room that is OFF no TICKS
        check.due("reset()", x.reset(), 0);
        x.start();
        x.tick(2);
        check.due("state(0, 1)", x.state(0, 1), 2);
        check.due("reading(0, 2)", x.reading(0, 2), 207);
        x.tick(1000);
        check.dueTold(x, 3, 15, 1, 1, 10, 1);
    }

    private static void resetForgetsWhatWasWanted() {
        // a HOLD as the first STEP keeps what was at TICK 0, a RAMP begins from there
        EngineCell x = with(1, 1, 3000, 300, 0, 1, 0, 0);
        for (int round = 0; round < 2; round++) {
            x.start();
            x.tick(1000);
            x.reset();
        }
        x.clear();
        x.step(0, 1, 0, 0);
        x.step(1, 2, 100, 10);
        x.step(2, 0, 0, 1);
        x.start();
        x.tick(3);
        int[] speeds = {0, 0, 50, 100};
        for (int tick = 0; tick <= 3; tick++) {
            check.due("WANTED SPEED at " + tick, x.was(tick, 5), speeds[tick]);
            check.due("PEDAL at " + tick, x.was(tick, 6), speeds[tick] / 10);
        }
        // stopped by hand in a RAMP, too
        EngineCell y = with(0, 1, 0, 0, 1, 4, 4000, 400);
        y.start();
        y.tick(3);
        again(y, 5);
        check.due("WANTED SPEED at 1", y.was(1, 5), 0);
        check.due("PEDAL at 1", y.was(1, 6), 0);
        check.due("PEDAL at 2", y.was(2, 6), 100);
    }

    private static void startBeginsAnew() {
        // stopped in the middle of a HOLD, a WAIT, a RAMP, a LOOP's rounds: nothing of it is left
        EngineCell x = running(0, 5, 0, 0);
        x.tick(3);
        again(x, 5);
        EngineCell y = read(with(2, 0, 5, 5));
        y.start();
        y.tick(3);
        again(y, 5);
        EngineCell z = running(1, 4, 400, 0);
        z.tick(3);
        again(z, 4);
        check.due("WANTED SPEED at 1", z.was(1, 5), 100);
        EngineCell w = running(0, 1, 0, 0, 3, 0, 4, 0);
        w.tick(3);
        again(w, 5);
    }

    private static void startSetsEachLoopsCount() {
        // the first and the last STEP that there may be, as LOOPS that led back already
        EngineCell x = running(3, 0, 60, 0, 0, 1, 0, 0);
        x.tick(10);
        check.dueTold(x, 3, 10, 0, 3, 10);
        x.reset();
        x.start();
        x.tick(10);
        check.dueTold(x, 3, 10, 0, 3, 10);
        EngineCell y = new EngineCell();
        for (int s = 0; s < 28; s++) y.step(4, 0, 0, 0);
        y.step(0, 1, 0, 0);
        y.step(3, 28, 5, 0);
        y.start();
        y.tick(4);
        check.dueTold(y, 1, 4, 29, NONE);
        again(y, 6);
        check.dueTold(y, 3, 16, 30, 0);
    }

    private static void again(EngineCell x, int due) {
        x.stop();
        x.tick(10);
        x.reset();
        check.due("start()", x.start(), 1);
        check.due("told(2)", x.told(2), 0);
        check.due("tick(1000)", x.tick(1000), due + 10);
    }
}
