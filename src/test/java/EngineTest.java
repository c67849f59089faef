/** Promises 1 to 4, and what THE ENGINE does in a TICK. */
public final class EngineTest {
    private static final int UNKNOWN = -1;
    private static final int OUTSIDE = -2;
    private static final int STATE = -3;
    private static final long LOST = Long.MIN_VALUE;
    private static final Check check = new Check();

    public static void main(String[] args) {
        aNewObject();
        map();
        mapWantsOff();
        torqueAtTheNumbers();
        torqueBetween();
        torqueBesideTheNumbers();
        torqueIsCutTowardZero();
        torqueOutside();
        lag();
        lagIsUsed();
        engineRises();
        engineFalls();
        engineAtItsGreatest();
        smokeOfTheLeastRise();
        speedGoesByOne();
        fuelIsNotBelowZero();
        tickZeroIsNotByTheMap();
        check.close("EngineTest");
    }

    private static EngineCell running(EngineCell x, int... steps) {
        for (int i = 0; i < steps.length; i += 4) {
            check.due("step", x.step(steps[i], steps[i + 1], steps[i + 2], steps[i + 3]), i / 4);
        }
        check.due("start()", x.start(), 1);
        return x;
    }

    private static void aNewObject() {
        EngineCell x = new EngineCell();
        check.dueTold(x, 0, 0, 0, -9, 0, 0, 0, 0, 0, 4);
        check.dueTick(x, 0, 0, 0, 0, 20, 0, 0, 0);
        check.due("was(1, 0)", x.was(1, 0), UNKNOWN);
        check.due("stepped(0, 0)", x.stepped(0, 0), UNKNOWN);
        check.due("mark(0)", x.mark(0), UNKNOWN);
        check.due("state(0, 0)", x.state(0, 0), UNKNOWN);
        check.due("other(0)", x.other(0), UNKNOWN);
        check.due("trace()", x.trace(), 0);
        check.due("fault()", x.fault(), 0);
        for (int k = 0; k < 25; k++) {
            check.due("map(" + k + ", 7)", x.map(k, 7), 0);
        }
        for (int k = 0; k < 4; k++) {
            check.due("drop(" + k + ")", x.drop(k), 0);
        }
        check.due("LOST", EngineCell.LOST, LOST);
    }

    private static void map() {
        EngineCell x = new EngineCell();
        check.due("map(0, 1000)", x.map(0, 1000), 0);
        check.due("map(0, -500)", x.map(0, -500), 1000);
        check.due("map(0, 1001)", x.map(0, 1001), OUTSIDE);
        check.due("map(0, -501)", x.map(0, -501), OUTSIDE);
        check.due("map(0, 3)", x.map(0, 3), -500);
        check.due("map(24, 5)", x.map(24, 5), 0);
        check.due("map(25, 5)", x.map(25, 5), UNKNOWN);
        check.due("map(-1, 5)", x.map(-1, 5), UNKNOWN);
        check.due("map(25, 1001)", x.map(25, 1001), UNKNOWN);
        check.due("map(MIN, 5)", x.map(Integer.MIN_VALUE, 5), UNKNOWN);
        check.due("map(0, MAX)", x.map(0, Integer.MAX_VALUE), OUTSIDE);
    }

    private static void mapWantsOff() {
        EngineCell x = running(new EngineCell(), 0, 1, 0, 0);
        check.due("map running", x.map(0, 5), STATE);
        check.due("map running, OUTSIDE first", x.map(0, 1001), OUTSIDE);
        check.due("map running, UNKNOWN first", x.map(25, 5), UNKNOWN);
        x.tick(1);
        x.tick(1);
        check.due("map stopping", x.map(0, 5), STATE);
        x.tick(20);
        check.due("told(0)", x.told(0), 3);
        check.due("map stopped", x.map(0, 5), STATE);
        x.reset();
        check.due("map off", x.map(0, 5), 0);
    }

    private static void torqueAtTheNumbers() {
        EngineCell x = new EngineCell();
        for (int k = 0; k < 25; k++) {
            x.map(k, 37 * k - 400);
        }
        for (int i = 0; i < 5; i++) {
            for (int j = 0; j < 5; j++) {
                int k = 5 * i + j;
                check.due("torque at number " + k, x.torque(2000 * i, 250 * j), 37 * k - 400);
            }
        }
    }

    private static void torqueBetween() {
        EngineCell x = new EngineCell();
        x.map(6, 100);
        x.map(7, 300);
        x.map(11, 500);
        x.map(12, 1000);
        check.due("by pedal", x.torque(2000, 300), 140);
        check.due("by speed", x.torque(2500, 250), 200);
        check.due("by both", x.torque(3000, 375), 475);
        // (100 * 1500 * 240 + 500 * 500 * 240 + 300 * 1500 * 10 + 1000 * 500 * 10) / 500000
        check.due("by unlike parts", x.torque(2500, 260), 211);
        check.due("from below", x.torque(1000, 250), 50);
        check.due("beyond", x.torque(5000, 500), 500);
        x.map(24, 1000);
        // 1000 * 1999 * 249 / 500000
        check.due("in the last field", x.torque(7999, 999), 995);
        check.due("torque(8000, 999)", x.torque(8000, 999), 996);
    }

    private static void torqueBesideTheNumbers() {
        EngineCell x = new EngineCell();
        int[] peaks = {-500, 1000, -500, 1000, -500};
        for (int i = 0; i < 5; i++) {
            x.map(5 * i, peaks[i]);
        }
        check.due("torque(1999, 0)", x.torque(1999, 0), 999);
        check.due("torque(2001, 0)", x.torque(2001, 0), 999);
        check.due("torque(4001, 0)", x.torque(4001, 0), -499);
        check.due("torque(6001, 0)", x.torque(6001, 0), 999);
        EngineCell y = new EngineCell();
        for (int j = 0; j < 5; j++) {
            y.map(j, peaks[j]);
        }
        check.due("torque(0, 249)", y.torque(0, 249), 994);
        check.due("torque(0, 251)", y.torque(0, 251), 994);
        check.due("torque(0, 501)", y.torque(0, 501), -494);
        check.due("torque(0, 751)", y.torque(0, 751), 994);
        EngineCell z = new EngineCell();
        z.map(7, 1000);
        check.due("torque(2001, 500)", z.torque(2001, 500), 999);
        for (int k = 0; k < 25; k++) {
            z.map(k, k == 6 ? 999 : 1000);
        }
        // 2 less than 1000 times 500000
        check.due("torque(2, 1)", z.torque(2, 1), 999);
    }

    private static void torqueIsCutTowardZero() {
        EngineCell x = new EngineCell();
        x.map(0, -3);
        check.due("torque(0, 0)", x.torque(0, 0), -3);
        check.due("torque(1, 0)", x.torque(1, 0), -2);
        check.due("torque(0, 249)", x.torque(0, 249), 0);
        x.map(0, 3);
        check.due("torque(1, 0)", x.torque(1, 0), 2);
    }

    private static void torqueOutside() {
        EngineCell x = new EngineCell();
        check.due("torque(-1, 0)", x.torque(-1, 0), LOST);
        check.due("torque(8001, 0)", x.torque(8001, 0), LOST);
        check.due("torque(0, -1)", x.torque(0, -1), LOST);
        check.due("torque(0, 1001)", x.torque(0, 1001), LOST);
        check.due("torque(MIN, MAX)", x.torque(Integer.MIN_VALUE, Integer.MAX_VALUE), LOST);
        check.due("torque(8000, 1000)", x.torque(8000, 1000), 0);
        running(x, 0, 5, 0, 0);
        check.due("torque while running", x.torque(0, 0), 0);
    }

    private static void lag() {
        EngineCell x = new EngineCell();
        check.due("lag(20)", x.lag(20), 4);
        check.due("lag(1)", x.lag(1), 20);
        check.due("lag(0)", x.lag(0), OUTSIDE);
        check.due("lag(21)", x.lag(21), OUTSIDE);
        check.due("lag(-5)", x.lag(-5), OUTSIDE);
        check.due("told(9)", x.told(9), 1);
        running(x, 0, 5, 0, 0);
        check.due("lag running", x.lag(7), STATE);
        check.due("lag running, OUTSIDE first", x.lag(21), OUTSIDE);
        check.due("told(9)", x.told(9), 1);
        x.stop();
        x.tick(10);
        check.due("lag stopped", x.lag(7), STATE);
        x.reset();
        check.due("lag off", x.lag(7), 1);
    }

    private static void lagIsUsed() {
        EngineCell x = new EngineCell();
        x.lag(1);
        running(x, 1, 1, 5000, 0);
        x.tick(1);
        check.due("SPEED by LAG 1", x.was(1, 0), 5000);
        EngineCell y = new EngineCell();
        y.lag(20);
        running(y, 1, 1, 5000, 0, 0, 5, 0, 0);
        y.tick(2);
        check.due("SPEED by LAG 20", y.was(1, 0), 250);
        check.due("SPEED by LAG 20", y.was(2, 0), 487);
    }

    private static void engineRises() {
        EngineCell x = new EngineCell();
        x.map(9, 100);
        running(x, 1, 1, 8000, 1000, 0, 5, 0, 0);
        check.due("tick(3)", x.tick(3), 3);
        check.dueTick(x, 0, 0, 0, 0, 20, 0, 0, 0);
        check.dueTick(x, 1, 2000, 100, 300, 38, 300, 8000, 1000);
        check.dueTick(x, 2, 3500, 25, 262, 52, 150, 8000, 1000);
        // 4625 is beyond 4000, where THE MAP is 0
        check.dueTick(x, 3, 4625, 0, 231, 62, 75, 8000, 1000);
    }

    private static void engineFalls() {
        EngineCell x = new EngineCell();
        x.map(4, 400);
        x.lag(1);
        running(x, 1, 1, 1000, 1000, 1, 1, 500, 1000, 1, 1, 0, 0);
        x.tick(3);
        check.dueTick(x, 1, 1000, 200, 250, 35, 600, 1000, 1000);
        check.dueTick(x, 2, 500, 300, 175, 44, 300, 500, 1000);
        check.dueTick(x, 3, 0, 0, 0, 41, 150, 0, 0);
        x.tick(1);
        // the first of the last acts; (40 - 42) by 16 is cut to 0
        check.dueTick(x, 4, 800, 0, 40, 41, 75, 800, 0);
    }

    private static void engineAtItsGreatest() {
        EngineCell x = new EngineCell();
        for (int k = 0; k < 25; k++) {
            x.map(k, 1000);
        }
        x.lag(1);
        running(x, 1, 1, 8000, 1000);
        x.tick(1);
        check.dueTick(x, 1, 8000, 1000, 8400, 545, 3000, 8000, 1000);
    }

    private static void smokeOfTheLeastRise() {
        EngineCell x = new EngineCell();
        x.map(0, 1);
        running(x, 0, 5, 0, 0);
        x.tick(2);
        check.due("SMOKE at 1", x.was(1, 4), 3);
        check.due("SMOKE at 2", x.was(2, 4), 1);
    }

    private static void speedGoesByOne() {
        EngineCell x = new EngineCell();
        x.lag(20);
        running(x, 1, 1, 3, 0, 0, 4, 0, 0, 1, 1, 1, 0, 0, 4, 0, 0);
        x.tick(10);
        int[] speeds = {0, 1, 2, 3, 3, 3, 2, 1, 1, 1, 1};
        for (int tick = 0; tick < speeds.length; tick++) {
            check.due("SPEED at " + tick, x.was(tick, 0), speeds[tick]);
        }
    }

    private static void fuelIsNotBelowZero() {
        EngineCell x = new EngineCell();
        x.lag(1);
        for (int k = 0; k < 25; k++) {
            x.map(k, -51);
        }
        running(x, 1, 1, 8000, 0);
        x.tick(1);
        check.dueTick(x, 1, 8000, -51, 0, 20, 0, 8000, 0);
        EngineCell y = new EngineCell();
        y.lag(1);
        y.map(20, -49);
        running(y, 1, 1, 8000, 0);
        y.tick(1);
        check.dueTick(y, 1, 8000, -49, 8, 20, 0, 8000, 0);
    }

    private static void tickZeroIsNotByTheMap() {
        EngineCell x = new EngineCell();
        x.map(0, 50);
        running(x, 0, 5, 0, 0);
        x.tick(2);
        check.dueTick(x, 0, 0, 0, 0, 20, 0, 0, 0);
        check.dueTick(x, 1, 0, 50, 0, 20, 150, 0, 0);
        check.dueTick(x, 2, 0, 50, 0, 20, 75, 0, 0);
    }
}
