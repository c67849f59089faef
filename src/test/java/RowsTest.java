/** Each row and each count that the document names: empty, with one, full, and one more than full. */
public final class RowsTest {
    private static final int UNKNOWN = -1, OUTSIDE = -2, STATE = -3, FULL = -4, NONE = -9;
    private static final long LOST = Long.MIN_VALUE;
    private static final Check check = new Check();

    public static void main(String[] args) {
        theMapHasTwentyFive();
        noSteps();
        thirtySteps();
        thirtyStepsByLoad();
        clearEmptiesAndFillsAgain();
        thirtyStepsAreRun();
        noChannels();
        eightChannels();
        noMarks();
        twentyMarks();
        marksBeyondDoNotEndASpan();
        noLosses();
        twentyLosses();
        noCorrections();
        twentyCorrections();
        noOthers();
        othersOfEachSpan();
        noTicks();
        threeThousandTicks();
        lastActsUpTo3000();
        tenLastActs();
        holdOfOneAndOf500();
        rampOfOneAndOf500();
        waitOfOneAndOf500();
        loopOfOneAndOfAHundred();
        fiftyStepsInATick();
        spanOfNoTicks();
        spanOfOneReading();
        lawOfNoneAndOfOne();
        noSheet();
        sheetOfNoCells();
        sheetOfFortyCells();
        oneObjectApartFromAnother();
        fiveHundredAndTwelveCalls();
        check.close("RowsTest");
    }

    private static EngineCell with(int... steps) {
        EngineCell x = new EngineCell();
        for (int i = 0; i < steps.length; i += 4) {
            check.due("step", x.step(steps[i], steps[i + 1], steps[i + 2], steps[i + 3]), i / 4);
        }
        return x;
    }

    private static EngineCell running(int... steps) {
        EngineCell x = with(steps);
        check.due("start()", x.start(), 1);
        return x;
    }

    private static void theMapHasTwentyFive() {
        EngineCell x = new EngineCell();
        for (int k = 0; k < 25; k++) check.due("map(" + k + ", " + k + ")", x.map(k, 10 + k), 0);
        for (int k = 0; k < 25; k++) check.due("map(" + k + ", 0)", x.map(k, 0), 10 + k);
        check.due("map(25, 0)", x.map(25, 0), UNKNOWN);
    }

    private static void noSteps() {
        EngineCell x = new EngineCell();
        check.due("told(6)", x.told(6), 0);
        check.due("stepped(0, 0)", x.stepped(0, 0), UNKNOWN);
        check.due("start()", x.start(), STATE);
        check.due("clear()", x.clear(), 0);
        check.due("tell(0)", x.tell(0), UNKNOWN);
        check.due("draw(0)", x.draw(0), UNKNOWN);
        check.due("as(0, 0)", x.as(0, 0), UNKNOWN);
        check.due("step", x.step(0, 1, 0, 0), 0);
        check.due("start() of one", x.start(), 1);
    }

    private static void thirtySteps() {
        EngineCell x = new EngineCell();
        for (int s = 0; s < 30; s++) {
            check.due("told(6)", x.told(6), s);
            check.due("step", x.step(2, s, -s, 1 + s), s);
        }
        check.due("step of 31", x.step(2, 0, 0, 1), FULL);
        check.due("told(6)", x.told(6), 30);
        for (int s = 0; s < 30; s++) {
            check.due("stepped(" + s + ", 0)", x.stepped(s, 0), 2);
            check.due("stepped(" + s + ", 1)", x.stepped(s, 1), s);
            check.due("stepped(" + s + ", 2)", x.stepped(s, 2), -s);
            check.due("stepped(" + s + ", 3)", x.stepped(s, 3), 1 + s);
        }
        check.due("stepped(30, 0)", x.stepped(30, 0), UNKNOWN);
    }

    private static EngineCell tenMarksInASheet(int steps) {
        EngineCell x = new EngineCell();
        x.sheet(1, 1, 40);
        for (int i = 0; i < 40; i += 4) x.put(1, i, 4);
        for (int s = 0; s < steps; s++) x.step(4, 0, 0, 0);
        return x;
    }

    private static void thirtyStepsByLoad() {
        EngineCell x = tenMarksInASheet(0);
        check.due("load none", x.load(1, 1, 0, 0), 0);
        check.due("load 1", x.load(1, 1, 36, 1), 1);
        check.due("load 10", x.load(1, 1, 0, 10), 11);
        check.due("load 10", x.load(1, 1, 0, 10), 21);
        check.due("load 10, 9 have a place", x.load(1, 1, 0, 10), FULL);
        check.due("told(6)", x.told(6), 21);
        check.due("load 9", x.load(1, 1, 4, 9), 30);
        check.due("load none", x.load(1, 1, 40, 0), 30);
        check.due("load 1", x.load(1, 1, 0, 1), FULL);
        EngineCell y = tenMarksInASheet(20);
        check.due("load 10 to 20", y.load(1, 1, 0, 10), 30);
    }

    private static void clearEmptiesAndFillsAgain() {
        EngineCell x = tenMarksInASheet(30);
        check.due("clear()", x.clear(), 30);
        check.due("told(6)", x.told(6), 0);
        check.due("stepped(0, 0)", x.stepped(0, 0), UNKNOWN);
        // the first LOOP is STEP 0 again
        check.due("step", x.step(3, 1, 1, 0), OUTSIDE);
        for (int s = 0; s < 30; s++) check.due("step", x.step(0, 1 + s, 0, 0), s);
        check.due("stepped(29, 1)", x.stepped(29, 1), 30);
        check.due("step of 31", x.step(0, 1, 0, 0), FULL);
    }

    private static void thirtyStepsAreRun() {
        EngineCell x = new EngineCell();
        for (int s = 0; s < 30; s++) x.step(1, 1, 100 + s, s);
        x.start();
        check.due("tick(1000)", x.tick(1000), 40);
        for (int tick = 1; tick <= 30; tick++) check.due("was", x.was(tick, 5), 99 + tick);
        check.dueTold(x, 3, 40, 30, 0, 10);
    }

    private static void noChannels() {
        EngineCell x = running(0, 1, 0, 0);
        check.due("told(7)", x.told(7), 0);
        check.due("limit", x.limit(0, 0), UNKNOWN);
        check.due("lose", x.lose(0, 0, 0), UNKNOWN);
        check.due("correct", x.correct(0, 0, 1, 0), UNKNOWN);
        check.due("reading", x.reading(0, 0), LOST);
        check.due("state", x.state(0, 0), UNKNOWN);
        check.due("valid", x.valid(0), UNKNOWN);
        check.due("law", x.law(0, 0), LOST);
        check.due("tick(1000)", x.tick(1000), 11);
    }

    private static void eightChannels() {
        EngineCell x = with(1, 1, 1, 1000, 0, 40, 0, 0);
        for (int c = 0; c < 8; c++) {
            check.due("told(7)", x.told(7), c);
            check.due("channel", x.channel(3, 1 + c, c % 2, 10 * c, 10 * c + 5), c);
        }
        check.due("channel of 9", x.channel(0, 1, 0, 0, 1), FULL);
        check.due("told(7)", x.told(7), 8);
        // each is its own: HEAT is 20 at TICK 0, what is cut is in its RANGE
        for (int c = 0; c < 8; c++) {
            check.due("state(" + c + ", 0)", x.state(c, 0), c % 2 == 1 ? 2 : c == 2 ? 0 : 1);
            long due = c % 2 == 1 ? LOST : c == 0 ? 5 : 10 * c;
            check.due("reading(" + c + ", 0)", x.reading(c, 0), due);
        }
        check.due("reading(8, 0)", x.reading(8, 0), LOST);
        check.due("limit of the eighth", x.limit(7, 69), 1);
        x.start();
        // 70 at TICK 8, the first of its readings that is not LOST
        x.tick(1000);
        check.dueTold(x, 3, 18, 1, 1, 10);
        check.due("reading(7, 8)", x.reading(7, 8), 70);
    }

    private static void noMarks() {
        EngineCell x = with(0, 9, 0, 0);
        x.channel(0, 1, 0, 0, 1);
        x.start();
        x.tick(3);
        check.due("told(5)", x.told(5), 0);
        check.due("mark(0)", x.mark(0), UNKNOWN);
        check.due("report(0, 0, 0)", x.report(0, 0, 0), LOST);
        check.due("correct", x.correct(0, 0, 1, 9), 0);
    }

    /** A MARK in each of so many TICKS from the first one on; HEAT is 20. */
    private static EngineCell marksInEachTick(int many) {
        EngineCell x = with(4, 0, 0, 0, 0, 1, 0, 0, 3, 0, many - 1, 0, 0, 500, 0, 0);
        x.channel(3, 1, 0, 0, 100);
        x.start();
        return x;
    }

    private static void twentyMarks() {
        EngineCell x = marksInEachTick(20);
        for (int m = 0; m < 20; m++) {
            check.due("told(5)", x.told(5), m);
            check.due("mark(" + m + ")", x.mark(m), UNKNOWN);
            x.tick(1);
            check.due("mark(" + m + ")", x.mark(m), 1 + m);
        }
        x.tick(5);
        check.due("told(5)", x.told(5), 20);
        check.due("mark(20)", x.mark(20), UNKNOWN);
        check.due("report(20, 0, 0)", x.report(20, 0, 0), LOST);
        for (int m = 0; m < 19; m++) check.due("report(" + m + ", 0, 0)", x.report(m, 0, 0), 1);
        check.due("report(19, 0, 0)", x.report(19, 0, 0), 6);
    }

    private static void marksBeyondDoNotEndASpan() {
        EngineCell x = marksInEachTick(25);
        x.tick(25);
        check.due("told(5)", x.told(5), 20);
        check.due("mark(19)", x.mark(19), 20);
        check.due("mark(20)", x.mark(20), UNKNOWN);
        // TICKS 20 to 25
        check.due("report(19, 0, 0)", x.report(19, 0, 0), 6);
        check.due("told(0)", x.told(0), 1);
    }

    private static EngineCell twoChannels() {
        EngineCell x = with(4, 0, 0, 0, 0, 500, 0, 0);
        x.channel(3, 1, 0, 0, 100);
        x.channel(3, 1, 0, 0, 100);
        x.start();
        x.tick(30);
        return x;
    }

    private static void noLosses() {
        EngineCell x = twoChannels();
        for (int tick = 0; tick <= 30; tick++) check.due("state", x.state(0, tick), 0);
        check.due("the first one", x.lose(0, 7, 7), 1);
        for (int tick = 0; tick <= 30; tick++) check.due("state", x.state(0, tick), tick == 7 ? 2 : 0);
    }

    private static void twentyLosses() {
        EngineCell x = twoChannels();
        for (int i = 1; i <= 20; i++) check.due("lose", x.lose(i % 2, i, i), i);
        check.due("lose of 21", x.lose(0, 25, 25), FULL);
        check.due("lose of 21", x.lose(1, 25, 25), FULL);
        for (int tick = 0; tick <= 30; tick++) {
            boolean told = tick >= 1 && tick <= 20;
            check.due("state(0, " + tick + ")", x.state(0, tick), told && tick % 2 == 0 ? 2 : 0);
            check.due("state(1, " + tick + ")", x.state(1, tick), told && tick % 2 == 1 ? 2 : 0);
        }
    }

    private static void noCorrections() {
        EngineCell x = twoChannels();
        check.due("told(8)", x.told(8), 0);
        check.due("reading(0, 3)", x.reading(0, 3), 20);
        check.due("other(0)", x.other(0), UNKNOWN);
        x.correct(0, 3, 1000, 1);
        check.due("told(8)", x.told(8), 1);
        check.due("reading(0, 3)", x.reading(0, 3), 21);
    }

    private static void twentyCorrections() {
        EngineCell x = twoChannels();
        for (int i = 1; i <= 20; i++) {
            x.correct(i % 2, i, 1000, i);
            check.due("told(8)", x.told(8), i);
        }
        check.due("correct of 21", x.correct(0, 0, 1000, 500), FULL);
        check.due("correct of 21", x.correct(1, 0, 1000, 500), FULL);
        check.due("told(8)", x.told(8), 20);
        for (int tick = 0; tick <= 30; tick++) {
            int last = Math.min(20, tick);
            int even = last - last % 2;
            int odd = last % 2 == 1 ? last : last - 1;
            check.due("reading(0, " + tick + ")", x.reading(0, tick), 20 + even);
            check.due("reading(1, " + tick + ")", x.reading(1, tick), odd < 1 ? 20 : 20 + odd);
        }
    }

    private static void noOthers() {
        EngineCell x = twoChannels();
        check.due("correct to the same", x.correct(0, 0, 1000, 0), 0);
        check.due("other(0)", x.other(0), UNKNOWN);
        // readings became other, but none in a SPAN
        check.due("correct ahead of the SPAN", x.correct(0, 0, 1000, 9), 4);
        check.due("correct back from TICK 1 on", x.correct(0, 1, 1000, 0), 4);
        check.due("correct TICK 0 alone", x.correct(0, 0, 1000, 5), 4);
        check.due("correct back from TICK 1 on", x.correct(0, 1, 1000, 5), 0);
        check.due("other(0)", x.other(0), UNKNOWN);
    }

    private static void othersOfEachSpan() {
        EngineCell x = marksInEachTick(20);
        x.tick(20);
        // each SPAN has one reading: the least, the greatest, the sum; there is no AREA
        check.due("correct", x.correct(0, 0, 1000, 1), 60);
        for (int i = 0; i < 60; i++) check.due("other(" + i + ")", x.other(i), 80 * (i / 3) + 3 + i % 3);
        check.due("other(60)", x.other(60), UNKNOWN);
        // the first of the last SPAN alone
        check.due("correct", x.correct(0, 20, 1000, 2), 3);
        check.due("other(2)", x.other(2), 80 * 19 + 5);
        check.due("other(3)", x.other(3), UNKNOWN);
    }

    private static void noTicks() {
        EngineCell x = running(4, 0, 0, 0, 0, 5, 0, 0);
        check.due("told(1)", x.told(1), 0);
        check.due("tick(0)", x.tick(0), 0);
        check.due("told(5)", x.told(5), 0);
        check.due("was(0, 3)", x.was(0, 3), 20);
        check.due("was(1, 3)", x.was(1, 3), UNKNOWN);
        check.due("tick(1)", x.tick(1), 1);
        check.due("was(1, 3)", x.was(1, 3), 20);
        check.due("was(2, 3)", x.was(2, 3), UNKNOWN);
    }

    private static EngineCell longRun() {
        EngineCell x = running(0, 500, 0, 0, 3, 0, 100, 0);
        for (int i = 0; i < 2; i++) check.due("tick(1000)", x.tick(1000), 1000);
        return x;
    }

    private static void threeThousandTicks() {
        EngineCell x = longRun();
        check.due("tick(999)", x.tick(999), 999);
        check.due("told(1)", x.told(1), 2999);
        check.due("tick(2)", x.tick(2), 1);
        check.due("told(1)", x.told(1), 3000);
        check.due("tick(1)", x.tick(1), 0);
        check.due("told(1)", x.told(1), 3000);
        check.due("told(0)", x.told(0), 1);
        check.due("was(3000, 3)", x.was(3000, 3), 20);
        check.due("was(3001, 3)", x.was(3001, 3), UNKNOWN);
        EngineCell y = longRun();
        check.due("tick(1000)", y.tick(1000), 1000);
        check.due("tick(1000)", y.tick(1000), 0);
        check.due("told(1)", y.told(1), 3000);
    }

    private static void lastActsUpTo3000() {
        EngineCell x = longRun();
        x.tick(990);
        x.stop();
        check.due("the last ten", x.tick(1000), 10);
        check.dueTold(x, 3, 3000, 0, 4, 10);
        check.due("reset()", x.reset(), 3000);
        EngineCell y = longRun();
        y.tick(991);
        y.stop();
        check.due("nine of ten", y.tick(1000), 9);
        check.due("no more", y.tick(1000), 0);
        check.dueTold(y, 2, 3000, 0, 4, 9);
        check.due("reset()", y.reset(), STATE);
    }

    private static void tenLastActs() {
        EngineCell x = running(0, 5, 0, 0);
        x.tick(1);
        x.stop();
        for (int acts = 0; acts < 10; acts++) {
            check.dueTold(x, 2, 1 + acts, 0, 4, acts);
            check.due("tick(1)", x.tick(1), 1);
        }
        check.dueTold(x, 3, 11, 0, 4, 10);
        check.due("tick(1)", x.tick(1), 0);
        check.dueTold(x, 3, 11, 0, 4, 10);
    }

    private static void holdOfOneAndOf500() {
        EngineCell x = running(0, 1, 0, 0, 4, 0, 0, 0, 0, 500, 0, 0, 4, 0, 0, 0);
        x.tick(1);
        check.dueTold(x, 1, 1, 1, NONE, 0, 0);
        x.tick(500);
        check.dueTold(x, 1, 501, 3, NONE, 0, 1);
        x.tick(1);
        check.dueTold(x, 2, 502, 4, 0, 1, 2);
        check.due("mark(0)", x.mark(0), 2);
        check.due("mark(1)", x.mark(1), 502);
    }

    private static void rampOfOneAndOf500() {
        EngineCell x = running(1, 1, 8000, 1000, 1, 500, 500, 0, 0, 1, 0, 0);
        x.tick(502);
        check.due("WANTED SPEED at 1", x.was(1, 5), 8000);
        check.due("PEDAL at 1", x.was(1, 6), 1000);
        for (int tick = 1; tick <= 501; tick += 20) {
            int k = tick - 1;
            check.due("WANTED SPEED at " + tick, x.was(tick, 5), 8000 - 15 * k);
            check.due("PEDAL at " + tick, x.was(tick, 6), 1000 - 2 * k);
        }
        check.due("WANTED SPEED at 500", x.was(500, 5), 515);
        check.due("WANTED SPEED at 501", x.was(501, 5), 500);
        check.due("WANTED SPEED at 502", x.was(502, 5), 500);
    }

    private static void waitOfOneAndOf500() {
        int[] lengths = {1, 500};
        for (int c : lengths) {
            EngineCell x = with(2, 0, 100, c, 0, 5, 0, 0);
            x.channel(3, 1, 0, 0, 1000);
            x.start();
            x.tick(c);
            check.dueTold(x, 1, c, 0, NONE, 0);
            x.tick(1);
            check.dueTold(x, 2, c + 1, 0, 2, 1);
        }
    }

    private static void loopOfOneAndOfAHundred() {
        int[] times = {1, 100};
        for (int b : times) {
            EngineCell x = running(0, 1, 0, 0, 3, 0, b, 0);
            check.due("tick(1000)", x.tick(1000), 1 + b + 10);
            check.dueTold(x, 3, 11 + b, 2, 0, 10);
        }
    }

    /** STEPS that one TICK goes through ahead of the HOLD: MARKS, and a LOOP that leads to itself. */
    private static EngineCell through(int many) {
        EngineCell x = with(0, 1, 0, 0, 4, 0, 0, 0);
        // the LOOP is gone through once more than it leads back
        check.due("LOOP", x.step(3, 2, many - 2, 0), 2);
        check.due("HOLD", x.step(0, 2, 0, 0), 3);
        x.start();
        x.tick(1);
        check.dueTold(x, 1, 1, 1, NONE);
        x.tick(1);
        return x;
    }

    private static void fiftyStepsInATick() {
        check.dueTold(through(48), 1, 2, 3, NONE, 0, 1);
        // 49 and the HOLD
        check.dueTold(through(49), 1, 2, 3, NONE, 0, 1);
        // the HOLD would be the 51st
        check.dueTold(through(50), 2, 2, 3, 3, 1, 1);
        check.dueTold(through(51), 2, 2, 2, 3, 1, 1);
        // in each TICK they are counted anew
        EngineCell x = running(3, 0, 40, 0, 0, 1, 0, 0, 3, 0, 100, 0);
        check.due("tick(60)", x.tick(60), 60);
        check.due("told(0)", x.told(0), 1);
    }

    private static void spanOfNoTicks() {
        EngineCell x = with(4, 0, 0, 0, 4, 0, 0, 0, 0, 5, 0, 0);
        x.channel(3, 1, 0, 0, 100);
        x.start();
        x.tick(2);
        check.dueReport(x, 0, 0, 0, 0, 0, 0, 0, 0, 0, 0);
        check.dueReport(x, 1, 0, 2, 0, 0, 20, 20, 40, 40, 0);
        check.due("correct", x.correct(0, 0, 1000, -1), 4);
        check.due("other(0)", x.other(0), 83);
    }

    private static void spanOfOneReading() {
        EngineCell x = with(4, 0, 0, 0, 0, 9, 0, 0);
        x.channel(3, 4, 0, 0, 100);
        x.start();
        x.tick(3);
        check.dueReport(x, 0, 0, 0, 0, 0, 0, 0, 0, 0, 0);
        x.tick(1);
        check.dueReport(x, 0, 0, 1, 0, 0, 20, 20, 20, 0, 0);
        x.tick(3);
        check.dueReport(x, 0, 0, 1, 0, 0, 20, 20, 20, 0, 0);
        x.tick(1);
        check.dueReport(x, 0, 0, 2, 0, 0, 20, 20, 40, 4 * 40, 0);
    }

    private static void lawOfNoneAndOfOne() {
        EngineCell x = with(1, 1, 7, 0, 0, 9, 0, 0);
        x.channel(0, 1, 1, 5, 100);
        // the one reading is LOST: n is 0
        long[] none = {0, 0, 0, 0, 0};
        dueLaw(x, 1, none);
        x.start();
        x.tick(1);
        // of TICK 0: WANTED SPEED 0, SPEED 0 is cut to 5
        long[] one = {1, 0, 0, 5, 5};
        dueLaw(x, 1, one);
        x.tick(1);
        // of TICK 1: 7, SPEED 1 is cut to 5
        long[] two = {2, 2 * 35 - 7 * 10, 2 * 49 - 49, 3, 5};
        dueLaw(x, 1, two);
    }

    private static void dueLaw(EngineCell x, int valid, long... wants) {
        check.due("valid(0)", x.valid(0), valid);
        for (int what = 0; what < wants.length; what++) check.due("law(0, " + what + ")", x.law(0, what), wants[what]);
    }

    private static void noSheet() {
        EngineCell x = new EngineCell();
        for (int k = 0; k < 4; k++) {
            for (int lane = 0; lane < 3; lane++) {
                check.due("at", x.at(k, 0, lane), LOST);
                check.due("fault()", x.fault(), 1);
                check.due("load", x.load(k, lane, 0, 0), -11);
            }
            check.due("put", x.put(k, 0, 0), -11);
            check.due("drop", x.drop(k), 0);
        }
    }

    private static void sheetOfNoCells() {
        for (int lane = 0; lane < 3; lane++) {
            EngineCell x = new EngineCell();
            check.due("sheet", x.sheet(0, lane, 0), 1);
            check.due("put", x.put(0, 0, 0), -13);
            check.due("at", x.at(0, 0, lane), LOST);
            check.due("fault()", x.fault(), 3);
            check.due("load none", x.load(0, lane, 0, 0), 0);
            check.due("load one", x.load(0, lane, 0, 1), -13);
            check.due("at of another LANE", x.at(0, 0, (lane + 1) % 3), LOST);
            check.due("fault()", x.fault(), 2);
            check.due("drop", x.drop(0), 1);
        }
    }

    private static void sheetOfFortyCells() {
        for (int lane = 0; lane < 3; lane++) {
            EngineCell x = new EngineCell();
            x.sheet(3, lane, 40);
            for (int i = 0; i < 40; i++) check.due("put", x.put(3, i, 60 + i), 1);
            check.due("put(3, 40, 1)", x.put(3, 40, 1), -13);
            for (int i = 0; i < 40; i++) check.due("at", x.at(3, i, lane), 60 + i);
            check.due("at(3, 40, ..)", x.at(3, 40, lane), LOST);
            // a new row's cells are 0, and no more than it has
            x.sheet(3, lane, 1);
            check.due("at", x.at(3, 0, lane), 0);
            check.due("at(3, 1, ..)", x.at(3, 1, lane), LOST);
            x.sheet(3, lane, 40);
            for (int i = 0; i < 40; i++) check.due("at", x.at(3, i, lane), 0);
        }
    }

    private static void oneObjectApartFromAnother() {
        EngineCell x = Rooms.stopped();
        EngineCell y = new EngineCell();
        check.dueTold(y, 0, 0, 0, NONE, 0, 0, 0, 0, 0, 4);
        check.due("trace()", y.trace(), 0);
        check.due("fault()", y.fault(), 0);
        check.due("map(4, 0)", y.map(4, 0), 0);
        check.due("drop(0)", y.drop(0), 0);
        y.step(0, 1, 0, 0);
        y.channel(1, 1, 0, 0, 1);
        y.tell(0);
        check.dueTold(x, 3, 24);
        check.due("told(6)", x.told(6), 7);
    }

    private static void fiveHundredAndTwelveCalls() {
        EngineCell x = with(0, 1, 0, 0);
        int want = 0;
        for (int call = 2; call <= 511; call++) {
            check.due("tell(0)", x.tell(0), 1);
            want = 31 * want + 1;
        }
        check.due("trace() as the 512th", x.trace(), want);
    }
}
