/** Promises 26 to 34: SHEETS, TELLING, FAULTS. */
public final class SheetsTest {
    private static final int UNKNOWN = -1;
    private static final int OUTSIDE = -2;
    private static final int NULL = -11;
    private static final int CAST = -12;
    private static final int INDEX = -13;
    private static final int SIZE = -14;
    private static final long LOST = Long.MIN_VALUE;
    private static final int MIN = Integer.MIN_VALUE;
    private static final int MAX = Integer.MAX_VALUE;
    private static final Check check = new Check();

    public static void main(String[] args) {
        sheet();
        sheetIsNew();
        sheetInAnyState();
        drop();
        put();
        putIsCutToItsLane();
        at();
        tell();
        tellWraps();
        draw();
        as();
        trace();
        fault();
        faultStays();
        check.close("SheetsTest");
    }

    /** STEPS 0 to 4 of kinds 0 to 4. */
    private static EngineCell ofAllKinds() {
        EngineCell x = new EngineCell();
        check.due("step", x.step(0, 12, 90, 91), 0);
        check.due("step", x.step(1, 13, 92, 93), 1);
        check.due("step", x.step(2, 14, 94, 95), 2);
        check.due("step", x.step(3, 1, 96, 97), 3);
        check.due("step", x.step(4, 16, 98, 99), 4);
        return x;
    }

    private static void sheet() {
        EngineCell x = new EngineCell();
        check.due("sheet(0, 0, 0)", x.sheet(0, 0, 0), 1);
        check.due("sheet(3, 2, 40)", x.sheet(3, 2, 40), 1);
        check.due("sheet(-1, 9, -1)", x.sheet(-1, 9, -1), UNKNOWN);
        check.due("sheet(4, 9, 41)", x.sheet(4, 9, 41), UNKNOWN);
        check.due("sheet(0, -1, 1)", x.sheet(0, -1, 1), OUTSIDE);
        check.due("sheet(0, 3, -1)", x.sheet(0, 3, -1), OUTSIDE);
        check.due("sheet(0, 0, 41)", x.sheet(0, 0, 41), OUTSIDE);
        check.due("fault()", x.fault(), 0);
        check.due("sheet(0, 0, -1)", x.sheet(0, 0, -1), SIZE);
        check.due("fault()", x.fault(), 4);
        check.due("sheet(0, 0, MIN)", x.sheet(0, 0, MIN), SIZE);
        check.due("at(3, 39, 2)", x.at(3, 39, 2), 0);
        check.due("at(3, 40, 2)", x.at(3, 40, 2), LOST);
    }

    private static void sheetIsNew() {
        EngineCell x = new EngineCell();
        x.sheet(1, 2, 3);
        x.put(1, 0, 70000);
        x.put(1, 2, 5);
        // what is refused changes nothing
        check.due("sheet(1, 2, -1)", x.sheet(1, 2, -1), SIZE);
        check.due("sheet(1, 2, 41)", x.sheet(1, 2, 41), OUTSIDE);
        check.due("at(1, 0, 2)", x.at(1, 0, 2), 70000);
        check.due("sheet(1, 1, 2)", x.sheet(1, 1, 2), 1);
        check.due("at(1, 0, 1)", x.at(1, 0, 1), 0);
        check.due("at(1, 2, 1)", x.at(1, 2, 1), LOST);
        check.due("fault()", x.fault(), 3);
        check.due("sheet(1, 1, 3)", x.sheet(1, 1, 3), 1);
        check.due("at(1, 2, 1)", x.at(1, 2, 1), 0);
    }

    private static void sheetInAnyState() {
        EngineCell x = ofAllKinds();
        x.start();
        check.due("sheet", x.sheet(0, 0, 4), 1);
        check.due("put", x.put(0, 0, 4), 1);
        check.due("at", x.at(0, 0, 0), 4);
        check.due("tell", x.tell(0), 12);
        check.due("draw", x.draw(0), 100);
        check.due("as", x.as(0, 0), 1);
        check.due("drop", x.drop(0), 1);
    }

    private static void drop() {
        EngineCell x = new EngineCell();
        check.due("drop(0)", x.drop(0), 0);
        x.sheet(0, 0, 0);
        x.sheet(2, 0, 4);
        x.put(2, 1, 9);
        check.due("drop(0)", x.drop(0), 1);
        check.due("drop(0)", x.drop(0), 0);
        check.due("drop(4)", x.drop(4), UNKNOWN);
        check.due("drop(-1)", x.drop(-1), UNKNOWN);
        check.due("at(2, 1, 0)", x.at(2, 1, 0), 9);
        check.due("drop(2)", x.drop(2), 1);
        check.due("at(2, 1, 0)", x.at(2, 1, 0), LOST);
        check.due("fault()", x.fault(), 1);
        check.due("put(2, 1, 0)", x.put(2, 1, 0), NULL);
        check.due("load(2, 0, 0, 0)", x.load(2, 0, 0, 0), NULL);
    }

    private static void put() {
        EngineCell x = new EngineCell();
        check.due("put(4, 0, 0)", x.put(4, 0, 0), UNKNOWN);
        check.due("put(-1, 0, 0)", x.put(-1, 0, 0), UNKNOWN);
        check.due("fault()", x.fault(), 0);
        check.due("put(0, -1, 0)", x.put(0, -1, 0), NULL);
        check.due("fault()", x.fault(), 1);
        x.sheet(0, 2, 40);
        check.due("put(0, -1, 0)", x.put(0, -1, 0), INDEX);
        check.due("fault()", x.fault(), 3);
        check.due("put(0, 40, 0)", x.put(0, 40, 0), INDEX);
        check.due("put(0, MAX, 0)", x.put(0, MAX, 0), INDEX);
        check.due("put(0, MIN, 0)", x.put(0, MIN, 0), INDEX);
        check.due("put(0, 39, 6)", x.put(0, 39, 6), 1);
        check.due("fault()", x.fault(), 0);
        check.due("put(0, 0, 7)", x.put(0, 0, 7), 1);
        check.due("at(0, 39, 2)", x.at(0, 39, 2), 6);
        check.due("at(0, 0, 2)", x.at(0, 0, 2), 7);
        check.due("at(0, 1, 2)", x.at(0, 1, 2), 0);
        x.sheet(0, 2, 0);
        check.due("put(0, 0, 7)", x.put(0, 0, 7), INDEX);
    }

    private static void putIsCutToItsLane() {
        int[] values = {127, 128, 255, 256, -128, -129, 32767, 32768, 65535, 65536, -32769, MAX, MIN};
        int[] bytes = {127, -128, -1, 0, -128, 127, -1, 0, -1, 0, -1, -1, 0};
        int[] shorts = {127, 128, 255, 256, -128, -129, 32767, -32768, -1, 0, 32767, -1, 0};
        EngineCell x = new EngineCell();
        for (int lane = 0; lane < 3; lane++) {
            x.sheet(lane, lane, 40);
        }
        for (int i = 0; i < values.length; i++) {
            for (int lane = 0; lane < 3; lane++) {
                check.due("put", x.put(lane, i, values[i]), 1);
            }
            check.due("a byte of " + values[i], x.at(0, i, 0), bytes[i]);
            check.due("a short of " + values[i], x.at(1, i, 1), shorts[i]);
            check.due("an int of " + values[i], x.at(2, i, 2), values[i]);
        }
    }

    private static void at() {
        EngineCell x = new EngineCell();
        check.due("at NULL", x.at(0, 0, 0), LOST);
        check.due("fault()", x.fault(), 1);
        check.due("at UNKNOWN", x.at(4, 0, 0), LOST);
        check.due("fault()", x.fault(), 0);
        check.due("at NULL ahead of INDEX", x.at(0, -1, 2), LOST);
        check.due("fault()", x.fault(), 1);
        check.due("at OUTSIDE ahead of NULL", x.at(0, 0, 3), LOST);
        check.due("fault()", x.fault(), 0);
        x.sheet(0, 1, 5);
        x.put(0, 4, -3);
        check.due("at CAST ahead of INDEX", x.at(0, 9, 0), LOST);
        check.due("fault()", x.fault(), 2);
        check.due("at CAST", x.at(0, 0, 2), LOST);
        check.due("fault()", x.fault(), 2);
        check.due("at INDEX", x.at(0, 5, 1), LOST);
        check.due("fault()", x.fault(), 3);
        check.due("at INDEX", x.at(0, -1, 1), LOST);
        check.due("fault()", x.fault(), 3);
        check.due("at(0, MAX, 1)", x.at(0, MAX, 1), LOST);
        check.due("at(0, MIN, 1)", x.at(0, MIN, 1), LOST);
        check.due("at OUTSIDE", x.at(0, 0, -1), LOST);
        check.due("fault()", x.fault(), 0);
        check.due("at(0, 4, 1)", x.at(0, 4, 1), -3);
        check.due("fault()", x.fault(), 0);
        check.due("at(-1, 0, 0)", x.at(-1, 0, 0), LOST);
    }

    private static void tell() {
        EngineCell x = ofAllKinds();
        int[] wants = {12, 130, 14 + 95, 7, 7};
        for (int s = 0; s < 5; s++) {
            check.due("tell(" + s + ")", x.tell(s), wants[s]);
        }
        check.due("tell(5)", x.tell(5), UNKNOWN);
        check.due("tell(-1)", x.tell(-1), UNKNOWN);
    }

    private static void tellWraps() {
        EngineCell x = new EngineCell();
        x.step(2, MAX, 0, 500);
        x.step(2, MIN, 0, 1);
        check.due("tell(0)", x.tell(0), MIN + 499);
        check.due("tell(1)", x.tell(1), MIN + 1);
    }

    private static void draw() {
        EngineCell x = ofAllKinds();
        int[] wants = {100, 3, 102, 103, 104};
        for (int s = 0; s < 5; s++) {
            check.due("draw(" + s + ")", x.draw(s), wants[s]);
        }
        check.due("draw(5)", x.draw(5), UNKNOWN);
        check.due("draw(-1)", x.draw(-1), UNKNOWN);
    }

    private static void as() {
        EngineCell x = ofAllKinds();
        int[][] wants = {
            {1, CAST, CAST, CAST, CAST},
            {1, 1, CAST, CAST, CAST},
            {1, CAST, 1, CAST, CAST},
            {CAST, CAST, CAST, 1, CAST},
            {CAST, CAST, CAST, 1, 1},
        };
        for (int s = 0; s < 5; s++) {
            for (int kind = 0; kind < 5; kind++) {
                check.due("as(" + s + ", " + kind + ")", x.as(s, kind), wants[s][kind]);
                check.due("fault()", x.fault(), wants[s][kind] == 1 ? 0 : 2);
            }
        }
        x.as(0, 1);
        check.due("as(0, 5)", x.as(0, 5), OUTSIDE);
        check.due("fault()", x.fault(), 0);
        check.due("as(0, -1)", x.as(0, -1), OUTSIDE);
        x.as(0, 1);
        check.due("as(5, 5)", x.as(5, 5), UNKNOWN);
        check.due("fault()", x.fault(), 0);
        check.due("as(-1, 0)", x.as(-1, 0), UNKNOWN);
    }

    private static void trace() {
        // what each call leaves, by kinds
        int[][] told = {{1}, {2, 1}, {3, 1}, {4}, {4}};
        int[][] drawn = {{5}, {6}, {5}, {5}, {5}};
        EngineCell x = ofAllKinds();
        int want = 0;
        for (int round = 0; round < 3; round++) {
            for (int s = 0; s < 5; s++) {
                x.tell(s);
                for (int number : told[s]) {
                    want = 31 * want + number;
                }
                check.due("trace() behind tell(" + s + ")", x.trace(), want);
                x.draw(s);
                for (int number : drawn[s]) {
                    want = 31 * want + number;
                }
                check.due("trace() behind draw(" + s + ")", x.trace(), want);
            }
        }
        x.tell(5);
        x.draw(-1);
        x.as(0, 0);
        x.as(0, 1);
        x.clear();
        check.due("trace()", x.trace(), want);
        check.due("trace() has wrapped", ofWraps(), 1);
    }

    private static int ofWraps() {
        EngineCell x = ofAllKinds();
        for (int i = 0; i < 7; i++) {
            x.draw(0);
        }
        // 5 (31^7 - 1) by 30, as an int
        return x.trace() == (int) (5 * 27512614110L / 30) ? 1 : 0;
    }

    private static void fault() {
        EngineCell x = ofAllKinds();
        check.due("fault() ahead of any", x.fault(), 0);
        x.put(0, 0, 0);
        check.due("fault() of put", x.fault(), 1);
        x.sheet(0, 0, 4);
        check.due("fault() of sheet", x.fault(), 0);
        x.load(0, 1, 0, 0);
        check.due("fault() of load", x.fault(), 2);
        x.put(0, 0, 0);
        check.due("fault() of put", x.fault(), 0);
        x.at(0, 4, 0);
        check.due("fault() of at", x.fault(), 3);
        x.at(0, 3, 0);
        check.due("fault() of at", x.fault(), 0);
        x.sheet(1, 0, -1);
        check.due("fault() of sheet", x.fault(), 4);
        x.load(0, 0, 0, 0);
        check.due("fault() of load", x.fault(), 0);
        x.as(0, 1);
        check.due("fault() of as", x.fault(), 2);
        x.sheet(9, 0, 0);
        check.due("fault() of sheet refused", x.fault(), 0);
        x.as(0, 1);
        x.put(9, 0, 0);
        check.due("fault() of put refused", x.fault(), 0);
        x.as(0, 1);
        x.load(9, 0, 0, 0);
        check.due("fault() of load refused", x.fault(), 0);
        x.as(0, 1);
        x.at(9, 0, 0);
        check.due("fault() of at refused", x.fault(), 0);
    }

    /** Calls that name no FAULTS leave it as it is. */
    private static void faultStays() {
        EngineCell x = ofAllKinds();
        x.channel(0, 1, 0, 0, 100);
        x.as(0, 4);
        x.drop(0);
        x.drop(9);
        x.tell(0);
        x.tell(9);
        x.draw(0);
        x.trace();
        x.step(0, 1, 0, 0);
        x.step(9, 0, 0, 0);
        x.map(0, 0);
        x.torque(0, 0);
        x.lag(1);
        x.stepped(0, 0);
        x.limit(0, 0);
        x.lose(0, 0, 0);
        x.correct(0, 0, 1, 0);
        x.reading(0, 0);
        x.start();
        x.tick(5);
        x.stop();
        x.tick(10);
        x.reset();
        x.clear();
        x.told(0);
        x.was(0, 0);
        x.fault();
        check.due("fault()", x.fault(), 2);
    }
}
