/** The borders of promises 16 to 25: of readings, CORRECTIONS, SPANS, AREAS, GAPS and THE LAW. */
public final class ReportBordersTest {
    private static final int UNKNOWN = -1;
    private static final long LOST = Long.MIN_VALUE;
    private static final Check check = new Check();

    public static void main(String[] args) {
        readingOfTickZero();
        readingsOfItsRate();
        readingOfTheFirstTickThatIsLate();
        readingAtItsRange();
        readingOfANarrowRange();
        readingIsFullAheadOfItsCorrection();
        lossesAtTheirEnds();
        lossesThatOverlap();
        lossesOfTicksToCome();
        lossIsOfTheReadingsTick();
        correctionFromItsTick();
        correctionOfTheReadingsTick();
        correctionsLatestTold();
        correctionOfOneChannel();
        correctionIsNotOfACorrection();
        correctionIsCutTowardZero();
        correctionAtTheWidest();
        correctionOfWhatIsLost();
        otherOfTheLatestOne();
        otherIsLeftByReset();
        otherRises();
        otherOfAreaAlone();
        otherOfATickThatIsToCome();
        spanFromItsMark();
        spanUpToTheLastTick();
        spanGrowsWithLastActs();
        reportOfLeastAndGreatest();
        reportOfFullOnes();
        areaOfPairs();
        areaBelowZero();
        gapsOfNeighbours();
        pairsStayInTheirSpan();
        lawOverAllTicks();
        lawByWhatWasWanted();
        lawAtTheLeastB();
        lawAtTheEndsOfA();
        lawAtTheFinestEndsOfA();
        lawIsReckonedAnew();
        lawAtTheEndsOfTheSum();
        lawAtTheEndsOfOne();
        lawsFirstThatFails();
        lawOfTheLongestRun();
        check.close("ReportBordersTest");
    }

    private static EngineCell with(int... steps) {
        EngineCell x = new EngineCell();
        x.lag(1);
        for (int i = 0; i < steps.length; i += 4) {
            check.due("step", x.step(steps[i], steps[i + 1], steps[i + 2], steps[i + 3]), i / 4);
        }
        return x;
    }

    /** In TICK t the SPEED is 100 t, up to TICK 10; there is a MARK at TICK 1. */
    private static EngineCell rising() {
        return with(4, 0, 0, 0, 1, 10, 1000, 0, 0, 500, 0, 0);
    }

    private static void channel(EngineCell x, int source, int rate, int delay, int low, int high) {
        int number = x.told(7);
        check.due("channel", x.channel(source, rate, delay, low, high), number);
    }

    private static EngineCell run(EngineCell x, int ticks) {
        check.due("start()", x.start(), 1);
        check.due("tick", x.tick(ticks), ticks);
        return x;
    }

    /** SPEED at RATE 1, not late, not cut: 0, 100, 200 .. */
    private static EngineCell plain(int ticks) {
        EngineCell x = rising();
        channel(x, 0, 1, 0, -10000, 10000);
        return run(x, ticks);
    }

    private static void dueReadings(EngineCell x, int c, long... wants) {
        for (int tick = 0; tick < wants.length; tick++) {
            check.due("reading(" + c + ", " + tick + ")", x.reading(c, tick), wants[tick]);
        }
    }

    private static void dueStates(EngineCell x, int c, int... wants) {
        for (int tick = 0; tick < wants.length; tick++) {
            check.due("state(" + c + ", " + tick + ")", x.state(c, tick), wants[tick]);
        }
    }

    // ---- readings

    private static void readingOfTickZero() {
        EngineCell x = rising();
        for (int source = 0; source < 5; source++) channel(x, source, 20, 0, -10000, 10000);
        for (int source = 0; source < 5; source++) {
            check.due("reading(" + source + ", 0)", x.reading(source, 0), source == 3 ? 20 : 0);
            check.due("state(" + source + ", 0)", x.state(source, 0), 0);
        }
        check.due("reading(0, 1)", x.reading(0, 1), LOST);
        check.due("state(0, 1)", x.state(0, 1), UNKNOWN);
    }

    private static void readingsOfItsRate() {
        EngineCell x = rising();
        channel(x, 0, 2, 0, -10000, 10000);
        channel(x, 0, 3, 0, -10000, 10000);
        run(x, 6);
        dueReadings(x, 0, 0, LOST, 200, LOST, 400, LOST, 600, LOST);
        dueStates(x, 0, 0, UNKNOWN, 0, UNKNOWN, 0, UNKNOWN, 0, UNKNOWN);
        dueReadings(x, 1, 0, LOST, LOST, 300, LOST, LOST, 600);
        dueStates(x, 1, 0, UNKNOWN, UNKNOWN, 0, UNKNOWN, UNKNOWN, 0, UNKNOWN);
    }

    private static void readingOfTheFirstTickThatIsLate() {
        EngineCell x = rising();
        channel(x, 3, 1, 3, -10000, 10000);
        channel(x, 0, 2, 3, -10000, 10000);
        run(x, 6);
        dueReadings(x, 0, LOST, LOST, LOST, 20);
        dueStates(x, 0, 2, 2, 2, 0);
        dueReadings(x, 1, LOST, LOST, LOST, LOST, 100, LOST, 300);
        dueStates(x, 1, 2, UNKNOWN, 2, UNKNOWN, 0, UNKNOWN, 0);
    }

    private static void readingAtItsRange() {
        int[][] ranges = {{300, 500}, {301, 499}, {299, 501}};
        int[][] full = {{1, 0, 0, 0, 1}, {1, 1, 0, 1, 1}, {1, 0, 0, 0, 1}};
        for (int i = 0; i < 3; i++) {
            EngineCell x = rising();
            channel(x, 0, 1, 0, ranges[i][0], ranges[i][1]);
            run(x, 6);
            for (int tick = 2; tick <= 6; tick++) {
                check.due("state(0, " + tick + ")", x.state(0, tick), full[i][tick - 2]);
                int cut = Math.max(ranges[i][0], Math.min(ranges[i][1], 100 * tick));
                check.due("reading(0, " + tick + ")", x.reading(0, tick), cut);
            }
        }
    }

    private static void readingOfANarrowRange() {
        EngineCell x = rising();
        channel(x, 0, 1, 0, 200, 200);
        run(x, 3);
        dueReadings(x, 0, 200, 200, 200, 200);
        dueStates(x, 0, 1, 1, 0, 1);
    }

    private static void readingIsFullAheadOfItsCorrection() {
        EngineCell x = rising();
        channel(x, 0, 1, 0, 0, 250);
        run(x, 4);
        x.correct(0, 0, 2000, 300);
        // told beyond the RANGE, but not cut to it again, and FULL as it was
        dueReadings(x, 0, 300, 500, 700, 800, 800);
        dueStates(x, 0, 0, 0, 0, 1, 1);
        x.correct(0, 0, 500, 0);
        dueStates(x, 0, 0, 0, 0, 1, 1);
    }

    private static void lossesAtTheirEnds() {
        EngineCell x = plain(8);
        x.lose(0, 3, 5);
        dueStates(x, 0, 0, 0, 0, 2, 2, 2, 0, 0, 0);
        x.lose(0, 7, 7);
        dueStates(x, 0, 0, 0, 0, 2, 2, 2, 0, 2, 0);
        x.lose(0, 0, 0);
        dueStates(x, 0, 2, 0, 0, 2, 2, 2, 0, 2, 0);
        x.lose(0, 0, 3000);
        dueStates(x, 0, 2, 2, 2, 2, 2, 2, 2, 2, 2, UNKNOWN);
        dueReadings(x, 0, LOST, LOST, LOST, LOST, LOST, LOST, LOST, LOST, LOST);
    }

    private static void lossesThatOverlap() {
        EngineCell x = plain(8);
        check.due("lose", x.lose(0, 2, 4), 1);
        check.due("lose", x.lose(0, 4, 6), 2);
        check.due("lose the same", x.lose(0, 4, 6), 3);
        dueStates(x, 0, 0, 0, 2, 2, 2, 2, 2, 0, 0);
        check.due("report LOST ones", x.report(0, 0, 1), 5);
    }

    private static void lossesOfTicksToCome() {
        EngineCell x = rising();
        channel(x, 0, 1, 0, -10000, 10000);
        check.due("lose", x.lose(0, 2, 3), 1);
        check.due("state of a TICK that was not", x.state(0, 2), UNKNOWN);
        run(x, 4);
        dueStates(x, 0, 0, 0, 2, 2, 0);
    }

    private static void lossIsOfTheReadingsTick() {
        // at DELAY 2 that of TICK 4 is LOST, and not what was at TICK 4
        EngineCell x = rising();
        channel(x, 0, 1, 2, -10000, 10000);
        x.lose(0, 4, 4);
        run(x, 7);
        dueReadings(x, 0, LOST, LOST, 0, 100, LOST, 300, 400, 500);
    }

    // ---- CORRECTIONS

    private static void correctionFromItsTick() {
        EngineCell x = plain(4);
        x.correct(0, 2, 1000, 7);
        dueReadings(x, 0, 0, 100, 207, 307, 407);
        x.correct(0, 4, 1000, 9);
        dueReadings(x, 0, 0, 100, 207, 307, 409);
        x.correct(0, 5, 1000, 11);
        dueReadings(x, 0, 0, 100, 207, 307, 409);
        x.tick(1);
        check.due("reading(0, 5)", x.reading(0, 5), 511);
    }

    private static void correctionOfTheReadingsTick() {
        // at DELAY 2 from the reading of TICK 4 on, not from what was at TICK 4
        EngineCell x = rising();
        channel(x, 0, 1, 2, -10000, 10000);
        run(x, 6);
        x.correct(0, 4, 1000, 7);
        dueReadings(x, 0, LOST, LOST, 0, 100, 207, 307, 407);
    }

    private static void correctionsLatestTold() {
        EngineCell x = plain(4);
        x.correct(0, 3, 1000, 3);
        // told later: it counts where its TICK is not behind, though the other's is nearer
        x.correct(0, 1, 1000, 1);
        dueReadings(x, 0, 0, 101, 201, 301, 401);
        x.correct(0, 3, 1000, 3);
        dueReadings(x, 0, 0, 101, 201, 303, 403);
        x.correct(0, 0, 1000, 0);
        dueReadings(x, 0, 0, 100, 200, 300, 400);
    }

    private static void correctionOfOneChannel() {
        EngineCell x = rising();
        channel(x, 0, 1, 0, -10000, 10000);
        channel(x, 0, 1, 0, -10000, 10000);
        run(x, 2);
        x.correct(1, 0, 1000, 5);
        dueReadings(x, 0, 0, 100, 200);
        dueReadings(x, 1, 5, 105, 205);
        x.correct(0, 0, 1000, 6);
        dueReadings(x, 0, 6, 106, 206);
        dueReadings(x, 1, 5, 105, 205);
    }

    private static void correctionIsNotOfACorrection() {
        EngineCell x = plain(2);
        x.correct(0, 0, 2000, 10);
        x.correct(0, 0, 2000, 10);
        dueReadings(x, 0, 10, 210, 410);
    }

    private static void correctionIsCutTowardZero() {
        EngineCell x = rising();
        channel(x, 0, 1, 0, -3, -3);
        channel(x, 0, 1, 0, 3, 3);
        x.correct(0, 0, 500, 0);
        x.correct(1, 0, 500, 0);
        check.due("-1500 by 1000", x.reading(0, 0), -1);
        check.due("1500 by 1000", x.reading(1, 0), 1);
        // the quotient is cut ahead of h
        x.correct(0, 0, 500, 10);
        x.correct(1, 0, 500, -10);
        check.due("-1500 by 1000, and 10", x.reading(0, 0), 9);
        check.due("1500 by 1000, and -10", x.reading(1, 0), -9);
        x.correct(0, 0, 333, 0);
        x.correct(1, 0, 333, 0);
        check.due("-999 by 1000", x.reading(0, 0), 0);
        check.due("999 by 1000", x.reading(1, 0), 0);
        x.correct(0, 0, 1, 0);
        check.due("-3 by 1000", x.reading(0, 0), 0);
    }

    private static void correctionAtTheWidest() {
        EngineCell x = rising();
        channel(x, 0, 1, 0, -10000, -10000);
        channel(x, 0, 1, 0, 10000, 10000);
        x.correct(0, 0, 2000, -1000);
        x.correct(1, 0, 2000, 1000);
        check.due("the least", x.reading(0, 0), -21000);
        check.due("the greatest", x.reading(1, 0), 21000);
        // its LIMIT is as it is corrected
        x.limit(1, 21000);
        x.limit(0, -21000);
        run(x, 3);
        check.due("told(0)", x.told(0), 1);
        x.limit(1, 20999);
        x.tick(1);
        check.due("told(3)", x.told(3), 1);
    }

    private static void correctionOfWhatIsLost() {
        EngineCell x = plain(3);
        x.lose(0, 2, 2);
        x.correct(0, 0, 2000, 5);
        dueReadings(x, 0, 5, 205, LOST, 605);
        dueStates(x, 0, 0, 0, 2, 0);
        check.due("report LOST ones", x.report(0, 0, 1), 1);
    }

    private static void dueOthers(EngineCell x, int... wants) {
        for (int i = 0; i < wants.length; i++) check.due("other(" + i + ")", x.other(i), wants[i]);
        check.due("other(" + wants.length + ")", x.other(wants.length), UNKNOWN);
    }

    private static void otherOfTheLatestOne() {
        EngineCell x = plain(3);
        check.due("correct", x.correct(0, 0, 1000, 1), 4);
        dueOthers(x, 3, 4, 5, 6);
        // the last one alone: the least stays
        check.due("correct", x.correct(0, 3, 1000, 2), 3);
        dueOthers(x, 4, 5, 6);
        // nothing becomes other by a CORRECTION to the same numbers
        check.due("correct", x.correct(0, 3, 1000, 2), 0);
        dueOthers(x);
    }

    private static void otherIsLeftByReset() {
        // the latest CORRECTION is the same one still, and what it made other then
        EngineCell x = plain(3);
        x.correct(0, 0, 1000, 1);
        x.stop();
        x.tick(10);
        x.reset();
        check.due("told(8)", x.told(8), 1);
        dueOthers(x, 3, 4, 5, 6);
        // without SPANS a CORRECTION makes nothing other
        check.due("correct", x.correct(0, 0, 1000, 2), 0);
        dueOthers(x);
    }

    private static void otherRises() {
        // MARKS at 1, 3, 5; CHANNELS 0 and 7
        EngineCell x = with(4, 0, 0, 0, 1, 2, 200, 0, 3, 0, 2, 0, 0, 9, 0, 0);
        for (int c = 0; c < 8; c++) channel(x, 0, 1, 0, -10000, 10000);
        run(x, 6);
        check.due("told(5)", x.told(5), 3);
        check.due("correct", x.correct(7, 0, 1000, 1), 12);
        dueOthers(x, 73, 74, 75, 76, 153, 154, 155, 156, 233, 234, 235, 236);
        check.due("correct", x.correct(0, 0, 1000, 1), 12);
        dueOthers(x, 3, 4, 5, 6, 83, 84, 85, 86, 163, 164, 165, 166);
        check.due("correct from the second SPAN's last TICK", x.correct(7, 4, 1000, 2), 7);
        dueOthers(x, 154, 155, 156, 233, 234, 235, 236);
    }

    private static void otherOfAreaAlone() {
        EngineCell x = with(4, 0, 0, 0, 0, 1, 0, 0, 1, 1, 1000, 0, 1, 1, 300, 0, 0, 500, 0, 0);
        channel(x, 0, 1, 0, -10000, 10000);
        run(x, 4);
        check.due("correct", x.correct(0, 4, 1000, 100), 2);
        dueOthers(x, 5, 6);
        check.dueReport(x, 0, 0, 4, 0, 0, 0, 1000, 1700, 1000 + 1300 + 700, 0);
        // 300, 400 at TICKS 3, 4 become 350, 350
        check.due("correct", x.correct(0, 3, 1000, 50), 1);
        dueOthers(x, 6);
        check.dueReport(x, 0, 0, 4, 0, 0, 0, 1000, 1700, 1000 + 1350 + 700, 0);
    }

    private static void otherOfATickThatIsToCome() {
        EngineCell x = plain(3);
        check.due("correct", x.correct(0, 4, 1000, 1), 0);
        dueOthers(x);
        x.tick(1);
        dueOthers(x);
        check.due("reading(0, 4)", x.reading(0, 4), 401);
    }

    // ---- SPANS

    /** MARKS at TICKS 3, 5; SPEED 100 t. */
    private static EngineCell marked(int rate, int ticks) {
        EngineCell x = with(1, 2, 200, 0, 4, 0, 0, 0, 1, 2, 400, 0, 4, 0, 0, 0, 1, 6, 1000, 0, 0, 500, 0, 0);
        channel(x, 0, rate, 0, -10000, 10000);
        return run(x, ticks);
    }

    private static void spanFromItsMark() {
        EngineCell x = marked(1, 7);
        // TICKS 3, 4; then 5, 6, 7
        check.dueReport(x, 0, 0, 2, 0, 0, 300, 400, 700, 700, 0);
        check.dueReport(x, 1, 0, 3, 0, 0, 500, 700, 1800, 1100 + 1300, 0);
        x.lose(0, 2, 3);
        check.dueReport(x, 0, 0, 1, 1, 0, 400, 400, 400, 0, 0);
        x.lose(0, 4, 5);
        check.dueReport(x, 0, 0, 0, 2, 0, 0, 0, 0, 0, 0);
        check.dueReport(x, 1, 0, 2, 1, 0, 600, 700, 1300, 1300, 0);
        // of RATE 5 a reading is of the MARK's own TICK
        EngineCell y = marked(5, 7);
        check.dueReport(y, 0, 0, 0, 0, 0, 0, 0, 0, 0, 0);
        check.dueReport(y, 1, 0, 1, 0, 0, 500, 500, 500, 0, 0);
        EngineCell z = marked(4, 7);
        check.dueReport(z, 0, 0, 1, 0, 0, 400, 400, 400, 0, 0);
        check.dueReport(z, 1, 0, 0, 0, 0, 0, 0, 0, 0, 0);
    }

    private static void spanUpToTheLastTick() {
        EngineCell x = marked(1, 3);
        check.dueReport(x, 0, 0, 1, 0, 0, 300, 300, 300, 0, 0);
        check.due("report of a SPAN that is not yet", x.report(1, 0, 0), LOST);
        x.tick(1);
        check.dueReport(x, 0, 0, 2, 0, 0, 300, 400, 700, 700, 0);
        x.tick(1);
        check.dueReport(x, 0, 0, 2, 0, 0, 300, 400, 700, 700, 0);
        check.dueReport(x, 1, 0, 1, 0, 0, 500, 500, 500, 0, 0);
    }

    private static void spanGrowsWithLastActs() {
        EngineCell x = marked(1, 6);
        x.stop();
        x.tick(1);
        check.dueReport(x, 1, 0, 3, 0, 0, 500, 800, 1900, 1100 + 1400, 0);
        x.tick(1000);
        check.due("report", x.report(1, 0, 0), 2 + 10);
    }

    private static void reportOfLeastAndGreatest() {
        // falling and rising: the least and the greatest are neither first nor last
        EngineCell x = with(4, 0, 0, 0, 1, 1, 300, 0, 1, 1, 100, 0, 1, 1, 500, 0, 1, 1, 400, 0, 0, 9, 0, 0);
        channel(x, 0, 1, 0, -10000, 10000);
        run(x, 4);
        check.dueReport(x, 0, 0, 4, 0, 0, 100, 500, 1300, 400 + 600 + 900, 0);
        x.correct(0, 0, 1000, -400);
        check.dueReport(x, 0, 0, 4, 0, 0, -300, 100, -300, -400 - 200 + 100, 0);
        // 0 is neither of them where none is 0
        x.correct(0, 0, 1000, -600);
        check.dueReport(x, 0, 0, 4, 0, 0, -500, -100, -1100, -800 - 600 - 300, 0);
    }

    private static void reportOfFullOnes() {
        EngineCell x = rising();
        channel(x, 0, 1, 1, 150, 350);
        run(x, 6);
        // LOST of TICK 0 is ahead of the SPAN; 0, 100 and 400, 500 are cut
        check.dueReport(x, 0, 0, 6, 0, 4, 150, 350, 150 + 150 + 200 + 300 + 350 + 350, 300 + 350 + 500 + 650 + 700, 0);
        x.lose(0, 1, 1);
        check.due("FULL ones that are not LOST", x.report(0, 0, 2), 3);
        x.lose(0, 3, 3);
        check.due("FULL ones that are not LOST", x.report(0, 0, 2), 3);
        check.due("LOST ones", x.report(0, 0, 1), 2);
    }

    private static void areaOfPairs() {
        int[] rates = {1, 2, 5};
        long[] areas = {300 + 500 + 700 + 900 + 1100 + 1300 + 1500 + 1700 + 1900,
            2 * (600 + 1000 + 1400 + 1800), 5 * 1500};
        for (int i = 0; i < 3; i++) {
            EngineCell x = rising();
            channel(x, 0, rates[i], 0, -10000, 10000);
            run(x, 10);
            check.due("AREA at RATE " + rates[i], x.report(0, 0, 6), areas[i]);
            check.due("GAPS at RATE " + rates[i], x.report(0, 0, 7), 0);
        }
        EngineCell y = rising();
        channel(y, 0, 20, 0, -10000, 10000);
        run(y, 40);
        check.dueReport(y, 0, 0, 2, 0, 0, 1000, 1000, 2000, 20 * 2000, 0);
    }

    private static void areaBelowZero() {
        EngineCell x = rising();
        channel(x, 0, 3, 0, -10000, -7);
        run(x, 9);
        check.dueReport(x, 0, 0, 3, 0, 3, -7, -7, -21, 3 * -28, 0);
    }

    private static void gapsOfNeighbours() {
        EngineCell x = rising();
        channel(x, 0, 2, 0, -10000, 10000);
        run(x, 16);
        // of 2, 4 .. 16 without 4: one pair more apart, the AREA of the others
        x.lose(0, 4, 4);
        check.dueReport(x, 0, 0, 7, 1, 0, 200, 1000, 200 + 600 + 800 + 4 * 1000, 2 * (1400 + 1800 + 2000 * 3), 1);
        // without 4, 6: one gap still, and wider
        x.lose(0, 6, 6);
        check.due("GAPS", x.report(0, 0, 7), 1);
        check.due("AREA", x.report(0, 0, 6), 2 * (1800 + 2000 * 3));
        // without 12 two
        x.lose(0, 12, 12);
        check.due("GAPS", x.report(0, 0, 7), 2);
        check.due("AREA", x.report(0, 0, 6), 2 * (1800 + 2000));
        // at the ends there are none: nothing is beyond to be a pair with
        x.lose(0, 2, 2);
        check.due("GAPS", x.report(0, 0, 7), 1);
        x.lose(0, 16, 16);
        check.due("GAPS", x.report(0, 0, 7), 1);
        x.lose(0, 14, 14);
        check.due("GAPS", x.report(0, 0, 7), 0);
        check.due("AREA", x.report(0, 0, 6), 2 * 1800);
    }

    private static void pairsStayInTheirSpan() {
        // of the readings at 4 and 5 one is of each SPAN: no AREA and no GAP between them
        EngineCell x = marked(1, 6);
        check.due("AREA", x.report(0, 0, 6), 700);
        check.due("AREA", x.report(1, 0, 6), 1100);
        x.lose(0, 4, 4);
        check.due("GAPS", x.report(0, 0, 7), 0);
        check.due("GAPS", x.report(1, 0, 7), 0);
    }

    // ---- THE LAW

    private static void dueLaw(EngineCell x, int valid, long... wants) {
        check.due("valid(0)", x.valid(0), valid);
        for (int what = 0; what < wants.length; what++) check.due("law(0, " + what + ")", x.law(0, what), wants[what]);
    }

    private static void lawOverAllTicks() {
        // from TICK 0 up to the last one, ahead of the MARK, too
        EngineCell x = with(1, 2, 200, 0, 0, 1, 0, 0, 4, 0, 0, 0, 0, 500, 0, 0);
        channel(x, 0, 1, 0, -10000, 10000);
        run(x, 2);
        dueLaw(x, 0, 3, 60000, 60000, 0, 0);
        x.tick(1);
        // x = y = 0, 100, 200, 200
        dueLaw(x, 0, 4, 4 * 90000 - 250000, 110000, 0, 0);
        x.lose(0, 1, 2);
        dueLaw(x, 0, 2, 2 * 40000 - 40000, 40000, 0, 0);
    }

    private static void lawByWhatWasWanted() {
        // SPEED is late by LAG 2; what was wanted is of the TICK that the reading tells of
        EngineCell x = with(1, 2, 200, 0, 0, 500, 0, 0);
        x.lag(2);
        channel(x, 0, 1, 0, -10000, 10000);
        channel(x, 0, 1, 1, -10000, 10000);
        run(x, 3);
        // x: 0, 100, 200, 200; y: 0, 50, 125, 162
        dueLaw(x, 1, 4, 4 * (5000 + 25000 + 32400) - 500 * 337, 110000, 337 - 500, 75);
        // the same but the last one
        check.due("law(1, 0)", x.law(1, 0), 3);
        check.due("law(1, 1)", x.law(1, 1), 3 * 30000 - 300 * 175);
        check.due("law(1, 2)", x.law(1, 2), 60000);
        check.due("law(1, 3)", x.law(1, 3), 175 - 300);
        check.due("law(1, 4)", x.law(1, 4), 75);
    }

    private static void lawAtTheLeastB() {
        EngineCell x = with(1, 1, 1, 0, 0, 500, 0, 0);
        channel(x, 0, 1, 0, -10000, 10000);
        dueLaw(x, 1, 1, 0, 0, 0, 0);
        run(x, 1);
        dueLaw(x, 0, 2, 1, 1, 0, 0);
        // one and the same WANTED SPEED: B is 0, and so is A
        x.lose(0, 0, 0);
        x.tick(5);
        dueLaw(x, 1, 6, 0, 0, 0, 0);
    }

    private static void lawAtTheEndsOfA() {
        // x is 0 and 1000: A is y of the second one times 1000 here, B 1000000
        int[] wants = {949, 950, 951, 1049, 1050, 1051};
        int[] valid = {1, 0, 0, 0, 0, 1};
        for (int i = 0; i < wants.length; i++) {
            EngineCell x = with(1, 1, 1000, 0, 0, 500, 0, 0);
            channel(x, 0, 1, 0, -10000, 10000);
            run(x, 1);
            x.correct(0, 1, 1000, wants[i] - 1000);
            // y - x is 51 at most in sum and 100 is allowed
            dueLaw(x, valid[i], 2, 1000L * wants[i], 1000000, wants[i] - 1000, Math.abs(wants[i] - 1000));
        }
    }

    private static void lawAtTheFinestEndsOfA() {
        // of 13 readings one is told y at WANTED SPEED 8000, the others are 0: A by B is y by 8000
        int[] wants = {7599, 7600, 8400, 8401};
        for (int y : wants) {
            EngineCell x = with(0, 11, 0, 0, 1, 1, 8000, 0, 0, 500, 0, 0);
            channel(x, 0, 1, 0, -10000, 10000);
            run(x, 12);
            x.correct(0, 12, 1000, y - 8000);
            boolean within = y >= 7600 && y <= 8400;
            dueLaw(x, within ? 0 : 1, 13, 12L * 8000 * y, 12L * 8000 * 8000, y - 8000, Math.abs(y - 8000));
        }
    }

    private static void lawIsReckonedAnew() {
        EngineCell x = plain(10);
        x.correct(0, 0, 1000, 401);
        dueLaw(x, 2, 11, 12100000, 12100000, 4411, 401);
        x.correct(0, 0, 1000, 2);
        dueLaw(x, 0, 11, 12100000, 12100000, 22, 2);
        x.lose(0, 0, 3000);
        dueLaw(x, 1, 0, 0, 0, 0, 0);
    }

    private static void lawAtTheEndsOfTheSum() {
        // of eleven readings one is told more than 50 n beyond the others
        int[] more = {50, 51, -50, -51};
        for (int h : more) {
            EngineCell x = plain(10);
            x.correct(0, 0, 1000, h);
            x.correct(0, 10, 1000, h > 0 ? 50 : -50);
            // 500 and 50; 510 and 50
            int off = 10 * h + (h > 0 ? 50 : -50);
            check.due("the sum", x.law(0, 3), off);
            check.due("valid(0)", x.valid(0), Math.abs(off) > 550 ? 2 : 0);
            x.correct(0, 0, 1000, h > 0 ? 50 : -50);
            x.correct(0, 10, 1000, h);
            off = (h > 0 ? 500 : -500) + h;
            // 1 beyond it, once
            check.due("the sum", x.law(0, 3), off);
            check.due("valid(0)", x.valid(0), Math.abs(off) > 550 ? 2 : 0);
        }
    }

    private static void lawAtTheEndsOfOne() {
        int[] more = {399, 400, 401, -399, -400, -401};
        for (int h : more) {
            EngineCell x = with(1, 40, 8000, 0, 0, 500, 0, 0);
            channel(x, 0, 1, 0, -10000, 10000);
            run(x, 60);
            x.correct(0, 20, 1000, h);
            x.correct(0, 21, 1000, 0);
            check.due("the greatest", x.law(0, 4), Math.abs(h));
            check.due("valid(0)", x.valid(0), Math.abs(h) > 400 ? 3 : 0);
        }
    }

    private static void lawsFirstThatFails() {
        EngineCell x = plain(10);
        // all three fail, then the second and the third, then the third alone
        x.correct(0, 0, 500, 1000);
        check.due("valid(0)", x.valid(0), 1);
        x.correct(0, 0, 1000, 500);
        check.due("valid(0)", x.valid(0), 2);
        // 450 less, 450 more, at TICKS that are as far from the middle
        EngineCell y = with(1, 40, 8000, 0, 0, 500, 0, 0);
        channel(y, 0, 1, 0, -10000, 10000);
        run(y, 40);
        y.correct(0, 19, 1000, 450);
        y.correct(0, 20, 1000, 0);
        y.correct(0, 21, 1000, -450);
        y.correct(0, 22, 1000, 0);
        dueLaw(y, 3, 41, y.law(0, 1), y.law(0, 2), 0, 450);
    }

    private static void lawOfTheLongestRun() {
        // 3001 readings, half of them at the greatest SPEED: n times a sum is far beyond an int
        EngineCell x = with(0, 500, 0, 0, 3, 0, 2, 0, 1, 1, 8000, 0, 0, 500, 0, 0, 3, 3, 100, 0);
        channel(x, 0, 1, 0, -10000, 10000);
        run(x, 1000);
        x.tick(1000);
        x.tick(1000);
        long at8000 = 1500L * 8000 * 8000;
        long b = 3001 * at8000 - 1500L * 1500 * 8000 * 8000;
        dueLaw(x, 0, 3001, b, b, 0, 0);
        x.correct(0, 0, 1050, 0);
        dueLaw(x, 2, 3001, b / 20 * 21, b, 1500L * 400, 400);
        x.correct(0, 0, 1051, 0);
        check.due("valid(0)", x.valid(0), 1);
        x.correct(0, 0, 950, 0);
        check.due("valid(0)", x.valid(0), 2);
        x.correct(0, 0, 949, 0);
        check.due("valid(0)", x.valid(0), 1);
    }
}
