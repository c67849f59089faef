/** The borders of promises 26 to 34: cells cut to their LANE, what wraps, what FAULT is told and when. */
public final class SheetBordersTest {
    private static final int UNKNOWN = -1, OUTSIDE = -2;
    private static final long LOST = Long.MIN_VALUE;
    private static final int MIN = Integer.MIN_VALUE, MAX = Integer.MAX_VALUE;
    private static final Check check = new Check();

    public static void main(String[] args) {
        bytes();
        shorts();
        ints();
        loadTakesCellsAsTheyWereCut();
        loadLooksAtItsOwnCellsAlone();
        loadedLoopsCountTheStepsAheadOfThem();
        sheetsApartFromOneAnother();
        sheetOfAnotherLane();
        tellOfEachBody();
        tellOfAWaitWraps();
        traceBeginsAtZero();
        traceOfRampAndWaitIsTwo();
        traceWraps();
        traceStaysOverAll();
        drawIsLent();
        asOfEachKind();
        faultOfEachCall();
        faultIsOfTheLatestCallThatNamesOne();
        check.close("SheetBordersTest");
    }

    private static EngineCell ofAllKinds() {
        EngineCell x = new EngineCell();
        x.step(0, 500, 1, 2);
        x.step(1, 500, 3, 4);
        x.step(2, 7, 5, 500);
        x.step(3, 0, 6, 7);
        x.step(4, 8, 9, 10);
        return x;
    }

    // ---- SHEETS

    private static void dueCells(int lane, int[] values, int[] wants) {
        EngineCell x = new EngineCell();
        x.sheet(lane, lane, values.length);
        for (int i = 0; i < values.length; i++) {
            check.due("put", x.put(lane, i, values[i]), 1);
            check.due(values[i] + " in LANE " + lane, x.at(lane, i, lane), wants[i]);
        }
    }

    private static void bytes() {
        dueCells(0, new int[] {0, 127, 128, -128, -129, 255, 256, 257, -256, -257, MAX, MIN, 32768 + 5},
            new int[] {0, 127, -128, -128, 127, -1, 0, 1, 0, -1, -1, 0, 5});
    }

    private static void shorts() {
        dueCells(1, new int[] {0, 127, 128, 32767, 32768, -32768, -32769, 65535, 65536, 65537, MAX, MIN},
            new int[] {0, 127, 128, 32767, -32768, -32768, 32767, -1, 0, 1, -1, 0});
    }

    private static void ints() {
        dueCells(2, new int[] {0, 128, -129, 32768, -32769, 65536, MAX, MIN},
            new int[] {0, 128, -129, 32768, -32769, 65536, MAX, MIN});
    }

    private static void loadTakesCellsAsTheyWereCut() {
        // 260 is cut to 4, a MARK; 300 to 44
        EngineCell x = new EngineCell();
        x.sheet(0, 0, 4);
        x.put(0, 0, 260);
        x.put(0, 1, 300);
        x.put(0, 2, 128);
        x.put(0, 3, -129);
        check.due("load", x.load(0, 0, 0, 1), 1);
        int[] wants = {4, 44, -128, 127};
        for (int what = 0; what < 4; what++) check.due("stepped", x.stepped(0, what), wants[what]);
        // 65537 TICKS are cut to 1
        x.sheet(0, 1, 4);
        x.put(0, 1, 65537);
        check.due("load", x.load(0, 1, 0, 1), 2);
        check.due("stepped", x.stepped(1, 1), 1);
        x.sheet(0, 2, 4);
        x.put(0, 1, 65537);
        check.due("load", x.load(0, 2, 0, 1), OUTSIDE);
    }

    private static void loadLooksAtItsOwnCellsAlone() {
        // what is ahead of cell i, or behind the last one, is no STEP
        EngineCell x = new EngineCell();
        x.sheet(0, 2, 12);
        int[] cells = {9, 9, 0, 3, 4, 5, 4, 6, 7, 8, 9, 9};
        for (int i = 0; i < 12; i++) x.put(0, i, cells[i]);
        check.due("load", x.load(0, 2, 2, 2), 2);
        int[][] wants = {{0, 3, 4, 5}, {4, 6, 7, 8}};
        for (int s = 0; s < 2; s++) {
            for (int what = 0; what < 4; what++) check.due("stepped", x.stepped(s, what), wants[s][what]);
        }
        check.due("load from the next cell on", x.load(0, 2, 3, 1), OUTSIDE);
        // the SHEET has them still, and later numbers change no STEP
        x.put(0, 3, 77);
        check.due("stepped", x.stepped(0, 1), 3);
        check.due("at", x.at(0, 4, 2), 4);
    }

    private static void loadedLoopsCountTheStepsAheadOfThem() {
        EngineCell x = new EngineCell();
        x.sheet(0, 0, 8);
        int[] cells = {3, 0, 1, 0, 3, 1, 1, 0};
        for (int i = 0; i < 8; i++) x.put(0, i, cells[i]);
        check.due("LOOPS to themselves", x.load(0, 0, 0, 2), 2);
        x.put(0, 1, 3);
        check.due("a LOOP to one above it", x.load(0, 0, 0, 2), OUTSIDE);
        x.put(0, 1, 2);
        x.put(0, 5, 4);
        check.due("a second LOOP to one above it", x.load(0, 0, 0, 2), OUTSIDE);
        x.put(0, 5, 3);
        check.due("LOOPS to themselves", x.load(0, 0, 0, 2), 4);
    }

    private static void sheetsApartFromOneAnother() {
        EngineCell x = new EngineCell();
        for (int k = 0; k < 4; k++) x.sheet(k, 2, 3);
        for (int k = 0; k < 4; k++) {
            for (int i = 0; i < 3; i++) x.put(k, i, 10 * k + i);
        }
        for (int k = 0; k < 4; k++) {
            for (int i = 0; i < 3; i++) check.due("at", x.at(k, i, 2), 10 * k + i);
        }
        x.drop(1);
        x.sheet(2, 2, 3);
        check.due("at", x.at(0, 2, 2), 2);
        check.due("at", x.at(1, 2, 2), LOST);
        check.due("at", x.at(2, 2, 2), 0);
        check.due("at", x.at(3, 2, 2), 32);
    }

    private static void sheetOfAnotherLane() {
        EngineCell x = new EngineCell();
        for (int lane = 0; lane < 3; lane++) {
            check.due("sheet", x.sheet(0, lane, 2), 1);
            check.due("put", x.put(0, 1, 40000), 1);
            for (int other = 0; other < 3; other++) {
                boolean same = other == lane;
                long due = !same ? LOST : lane == 0 ? 64 : lane == 1 ? 40000 - 65536 : 40000;
                check.due("at", x.at(0, 1, other), due);
                check.due("fault()", x.fault(), same ? 0 : 2);
                check.due("load none", x.load(0, other, 2, 0), same ? 0 : -12);
            }
        }
    }

    // ---- TELLING

    private static void tellOfEachBody() {
        EngineCell x = ofAllKinds();
        int[] wants = {500, 5000, 507, 7, 7};
        int[] traces = {1, 31 * 2 + 1, 31 * 3 + 1, 4, 4};
        for (int s = 0; s < 5; s++) {
            EngineCell y = ofAllKinds();
            check.due("tell(" + s + ")", y.tell(s), wants[s]);
            check.due("trace()", y.trace(), traces[s]);
            check.due("tell(" + s + ")", x.tell(s), wants[s]);
        }
        check.due("tell(5)", x.tell(5), UNKNOWN);
    }

    private static void tellOfAWaitWraps() {
        EngineCell x = new EngineCell();
        x.step(2, MAX - 1, 0, 1);
        x.step(2, MAX, 0, 1);
        x.step(2, MIN, 0, 500);
        check.due("tell(0)", x.tell(0), MAX);
        check.due("tell(1)", x.tell(1), MIN);
        check.due("tell(2)", x.tell(2), MIN + 500);
    }

    private static void traceBeginsAtZero() {
        EngineCell x = ofAllKinds();
        check.due("trace()", x.trace(), 0);
        check.due("trace()", x.trace(), 0);
        x.tell(0);
        check.due("trace()", x.trace(), 1);
        x.tell(3);
        check.due("trace()", x.trace(), 31 + 4);
        x.draw(1);
        check.due("trace()", x.trace(), 31 * 35 + 6);
    }

    private static void traceOfRampAndWaitIsTwo() {
        EngineCell x = ofAllKinds();
        x.tell(1);
        check.due("trace()", x.trace(), 63);
        x.tell(2);
        check.due("trace()", x.trace(), (63 * 31 + 3) * 31 + 1);
        x.draw(2);
        check.due("trace()", x.trace(), ((63 * 31 + 3) * 31 + 1) * 31 + 5);
    }

    private static void traceWraps() {
        // LOOPS' 4 each time: 4 (31^n - 1) by 30, whose last 32 bits are kept
        EngineCell x = ofAllKinds();
        long whole = 0;
        boolean below = false;
        for (int n = 1; n <= 60; n++) {
            x.tell(3);
            whole = (31 * whole + 4) & 0xffffffffL;
            check.due("trace() behind " + n, x.trace(), (int) whole);
            below |= x.trace() < 0;
            // six of them are the last that an int holds without a wrap
            if (n == 6) check.due("trace()", x.trace(), 4L * (887503681 - 1) / 30);
            if (n == 7) check.due("trace()", x.trace(), (int) (4 * (27512614111L - 1) / 30));
        }
        check.due("it was below 0, too", below ? 1 : 0, 1);
    }

    private static void traceStaysOverAll() {
        EngineCell x = ofAllKinds();
        x.tell(1);
        x.tell(5);
        x.draw(-1);
        x.as(1, 0);
        x.as(1, 3);
        x.stepped(1, 0);
        x.start();
        x.tick(20);
        x.stop();
        x.tick(10);
        x.reset();
        x.clear();
        x.sheet(0, 0, 4);
        x.put(0, 1, 1);
        x.load(0, 0, 0, 1);
        check.due("trace()", x.trace(), 63);
        x.tell(0);
        check.due("trace()", x.trace(), 63 * 31 + 1);
    }

    private static void drawIsLent() {
        int[] wants = {100, 3, 102, 103, 104};
        for (int s = 0; s < 5; s++) {
            EngineCell x = ofAllKinds();
            check.due("draw(" + s + ")", x.draw(s), wants[s]);
            check.due("trace()", x.trace(), s == 1 ? 6 : 5);
        }
    }

    private static void asOfEachKind() {
        String[] are = {"10000", "11000", "10100", "00010", "00011"};
        for (int s = 0; s < 5; s++) {
            EngineCell x = ofAllKinds();
            for (int kind = 0; kind < 5; kind++) {
                boolean is = are[s].charAt(kind) == '1';
                check.due("as(" + s + ", " + kind + ")", x.as(s, kind), is ? 1 : -12);
                check.due("fault()", x.fault(), is ? 0 : 2);
            }
            check.due("trace()", x.trace(), 0);
        }
    }

    // ---- FAULTS

    private static void dueFault(EngineCell x, String call, long got, long want, int fault) {
        check.due(call, got, want);
        check.due("fault() of " + call, x.fault(), fault);
        check.due("fault() again", x.fault(), fault);
    }

    private static void faultOfEachCall() {
        EngineCell x = ofAllKinds();
        check.due("fault() ahead of any", x.fault(), 0);
        dueFault(x, "put", x.put(0, 0, 0), -11, 1);
        dueFault(x, "at", x.at(0, 0, 0), LOST, 1);
        dueFault(x, "load", x.load(0, 0, 0, 0), -11, 1);
        dueFault(x, "sheet", x.sheet(0, 0, -1), -14, 4);
        dueFault(x, "sheet", x.sheet(0, 0, 1), 1, 0);
        dueFault(x, "at", x.at(0, 0, 1), LOST, 2);
        dueFault(x, "at", x.at(0, 0, 0), 0, 0);
        dueFault(x, "load", x.load(0, 2, 0, 0), -12, 2);
        dueFault(x, "load", x.load(0, 0, 0, 0), 5, 0);
        dueFault(x, "load", x.load(0, 0, 0, -1), -14, 4);
        dueFault(x, "put", x.put(0, 0, 1), 1, 0);
        dueFault(x, "load", x.load(0, 0, 0, 1), -13, 3);
        dueFault(x, "as", x.as(0, 0), 1, 0);
        dueFault(x, "put", x.put(0, 1, 1), -13, 3);
        dueFault(x, "at", x.at(0, 1, 0), LOST, 3);
        dueFault(x, "as", x.as(0, 1), -12, 2);
    }

    private static void faultIsOfTheLatestCallThatNamesOne() {
        EngineCell x = ofAllKinds();
        x.put(0, 0, 0);
        x.as(0, 1);
        check.due("fault()", x.fault(), 2);
        // drop, tell and draw name none, nor does what is not of part 4
        x.drop(0);
        x.drop(4);
        x.tell(0);
        x.tell(9);
        x.draw(0);
        x.trace();
        x.step(0, 0, 0, 0);
        x.clear();
        x.reading(0, 0);
        x.told(99);
        check.due("fault()", x.fault(), 2);
    }
}
