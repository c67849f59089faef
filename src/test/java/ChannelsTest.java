/** Promises 16 to 25: CHANNELS, LIMITS, losses, CORRECTIONS, SPANS, THE LAW. */
public final class ChannelsTest {
    private static final int UNKNOWN = -1;
    private static final int OUTSIDE = -2;
    private static final int STATE = -3;
    private static final int FULL = -4;
    private static final long LOST = Long.MIN_VALUE;
    private static final int MIN = Integer.MIN_VALUE;
    private static final int MAX = Integer.MAX_VALUE;
    private static final Check check = new Check();

    public static void main(String[] args) {
        channelNumbers();
        channelFullAndState();
        limit();
        limitIsAboveNotAt();
        loseRefusals();
        loseIsLost();
        correctRefusals();
        correctTellsAnew();
        latestCorrectionCounts();
        other();
        otherOverSpans();
        otherOverTwentySpans();
        otherStays();
        readingOfEachSource();
        readingByRateAndDelay();
        readingIsCutToRange();
        stateTellsLostAheadOfFull();
        reportRefusals();
        reportNumbers();
        reportWithGaps();
        reportOfNone();
        reportOfLostOnly();
        reportOfEmptySpans();
        reportWhileItGrows();
        lawRefusals();
        lawNumbers();
        lawLooksDelayAhead();
        lawFirst();
        lawSecond();
        lawThird();
        lawEdges();
        lawLeavesLostOut();
        check.close("ChannelsTest");
    }

    private static EngineCell with(int... steps) {
        EngineCell x = new EngineCell();
        for (int i = 0; i < steps.length; i += 4) {
            check.due("step", x.step(steps[i], steps[i + 1], steps[i + 2], steps[i + 3]), i / 4);
        }
        return x;
    }

    /** SPEED is WANTED SPEED: 100 more in each of ten TICKS, from the MARK at TICK 1 on. */
    private static EngineCell rising() {
        EngineCell x = with(4, 0, 0, 0, 1, 10, 1000, 0, 0, 500, 0, 0);
        x.lag(1);
        return x;
    }

    private static void channel(EngineCell x, int source, int rate, int delay, int low, int high, int want) {
        check.due("channel(" + source + ", " + rate + ", " + delay + ", " + low + ", " + high + ")",
            x.channel(source, rate, delay, low, high), want);
    }

    private static void channelNumbers() {
        EngineCell x = new EngineCell();
        channel(x, -1, 1, 0, 0, 1, OUTSIDE);
        channel(x, 5, 1, 0, 0, 1, OUTSIDE);
        channel(x, 0, 0, 0, 0, 1, OUTSIDE);
        channel(x, 0, 21, 0, 0, 1, OUTSIDE);
        channel(x, 0, 1, -1, 0, 1, OUTSIDE);
        channel(x, 0, 1, 21, 0, 1, OUTSIDE);
        channel(x, 0, 1, 0, -10001, 1, OUTSIDE);
        channel(x, 0, 1, 0, 0, 10001, OUTSIDE);
        channel(x, 0, 1, 0, 10001, 10001, OUTSIDE);
        channel(x, 0, 1, 0, -10001, -10001, OUTSIDE);
        channel(x, 0, 1, 0, 2, 1, OUTSIDE);
        channel(x, MIN, MAX, MIN, MAX, MIN, OUTSIDE);
        check.due("told(7)", x.told(7), 0);
        channel(x, 0, 1, 0, 1, 1, 0);
        channel(x, 4, 20, 20, -10000, 10000, 1);
        channel(x, 2, 7, 3, -10000, -10000, 2);
        check.due("told(7)", x.told(7), 3);
    }

    private static void channelFullAndState() {
        EngineCell x = with(0, 1, 0, 0);
        for (int c = 0; c < 8; c++) {
            channel(x, 0, 1, 0, 0, 1, c);
        }
        channel(x, 0, 1, 0, 0, 1, FULL);
        channel(x, 0, 0, 0, 0, 1, OUTSIDE);
        x.clear();
        channel(x, 0, 1, 0, 0, 1, FULL);
        x.step(0, 1, 0, 0);
        x.start();
        channel(x, 0, 1, 0, 0, 1, STATE);
        channel(x, 0, 0, 0, 0, 1, STATE);
        x.tick(100);
        channel(x, 0, 1, 0, 0, 1, STATE);
        check.due("told(7)", x.told(7), 8);
    }

    private static void limit() {
        EngineCell x = rising();
        check.due("limit of none", x.limit(0, 0), UNKNOWN);
        channel(x, 0, 1, 0, 0, 10000, 0);
        check.due("limit(0, 30001)", x.limit(0, 30001), OUTSIDE);
        check.due("limit(0, -30001)", x.limit(0, -30001), OUTSIDE);
        check.due("limit(1, 30001)", x.limit(1, 30001), UNKNOWN);
        check.due("limit(-1, 0)", x.limit(-1, 0), UNKNOWN);
        check.due("limit(0, -30000)", x.limit(0, -30000), 1);
        check.due("limit(0, 30000)", x.limit(0, 30000), 1);
        x.start();
        x.tick(2);
        check.due("limit while running", x.limit(0, 450), 1);
        check.due("tick(100)", x.tick(100), 13);
        check.dueTold(x, 3, 15, 1, 1, 10);
        check.due("limit when stopped", x.limit(0, 0), 1);
    }

    private static void limitIsAboveNotAt() {
        EngineCell x = rising();
        channel(x, 0, 1, 0, 0, 10000, 0);
        channel(x, 0, 1, 0, 0, 10000, 1);
        x.limit(0, 300);
        x.start();
        x.tick(3);
        check.due("told(0)", x.told(0), 1);
        x.tick(1);
        check.due("told(0)", x.told(0), 2);
        // a reading that is d late is above it as late
        EngineCell y = rising();
        channel(y, 0, 1, 2, 0, 10000, 0);
        y.limit(0, 300);
        y.start();
        y.tick(5);
        check.due("told(0)", y.told(0), 1);
        y.tick(1);
        check.due("told(0)", y.told(0), 2);
    }

    private static void loseRefusals() {
        EngineCell x = rising();
        channel(x, 0, 1, 0, 0, 10000, 0);
        channel(x, 0, 1, 0, 0, 10000, 1);
        check.due("lose(2, 0, 0)", x.lose(2, 0, 0), UNKNOWN);
        check.due("lose(-1, 9, 0)", x.lose(-1, 9, 0), UNKNOWN);
        check.due("lose(0, -1, 0)", x.lose(0, -1, 0), OUTSIDE);
        check.due("lose(0, 3001, 3001)", x.lose(0, 3001, 3001), OUTSIDE);
        check.due("lose(0, 4, 3)", x.lose(0, 4, 3), OUTSIDE);
        check.due("lose(0, 4, 3001)", x.lose(0, 4, 3001), OUTSIDE);
        check.due("lose(0, 4, MIN)", x.lose(0, 4, MIN), OUTSIDE);
        for (int i = 1; i < 20; i++) {
            check.due("lose", x.lose(i % 2, 3000 - i, 3000), i);
        }
        check.due("lose(0, 3000, 3000)", x.lose(0, 3000, 3000), 20);
        check.due("lose(0, 0, 3000)", x.lose(0, 0, 3000), FULL);
        check.due("lose(1, 0, 3000)", x.lose(1, 0, 3000), FULL);
        check.due("lose(1, -1, 0)", x.lose(1, -1, 0), OUTSIDE);
        check.due("reading(0, 0)", x.reading(0, 0), 0);
    }

    private static void loseIsLost() {
        EngineCell x = rising();
        channel(x, 0, 1, 0, 0, 10000, 0);
        channel(x, 0, 2, 1, 0, 10000, 1);
        x.start();
        x.tick(8);
        check.due("lose(0, 3, 4)", x.lose(0, 3, 4), 1);
        check.due("lose(1, 6, 6)", x.lose(1, 6, 6), 2);
        check.due("lose(0, 8, 9)", x.lose(0, 8, 9), 3);
        x.tick(2);
        long[] wants = {0, 100, 200, LOST, LOST, 500, 600, 700, LOST, LOST, 1000};
        for (int tick = 0; tick < wants.length; tick++) {
            check.due("reading(0, " + tick + ")", x.reading(0, tick), wants[tick]);
            check.due("state(0, " + tick + ")", x.state(0, tick), wants[tick] == LOST ? 2 : 0);
        }
        check.due("reading(1, 4)", x.reading(1, 4), 300);
        check.due("reading(1, 6)", x.reading(1, 6), LOST);
        check.due("reading(1, 8)", x.reading(1, 8), 700);
    }

    private static void correctRefusals() {
        EngineCell x = rising();
        check.due("correct of none", x.correct(0, 0, 1000, 0), UNKNOWN);
        channel(x, 0, 1, 0, 0, 10000, 0);
        check.due("correct(1, -1, 0, 0)", x.correct(1, -1, 0, 0), UNKNOWN);
        check.due("correct(-1, 0, 1, 0)", x.correct(-1, 0, 1, 0), UNKNOWN);
        check.due("correct(0, -1, 1, 0)", x.correct(0, -1, 1, 0), OUTSIDE);
        check.due("correct(0, 3001, 1, 0)", x.correct(0, 3001, 1, 0), OUTSIDE);
        check.due("correct(0, 0, 0, 0)", x.correct(0, 0, 0, 0), OUTSIDE);
        check.due("correct(0, 0, 2001, 0)", x.correct(0, 0, 2001, 0), OUTSIDE);
        check.due("correct(0, 0, 1, -1001)", x.correct(0, 0, 1, -1001), OUTSIDE);
        check.due("correct(0, 0, 1, 1001)", x.correct(0, 0, 1, 1001), OUTSIDE);
        check.due("told(8)", x.told(8), 0);
        check.due("correct(0, 3000, 2000, 1000)", x.correct(0, 3000, 2000, 1000), 0);
        check.due("correct(0, 3000, 1, -1000)", x.correct(0, 3000, 1, -1000), 0);
        channel(x, 0, 1, 0, 0, 10000, 1);
        for (int i = 3; i <= 20; i++) {
            check.due("correct", x.correct(i % 2, 0, i, i), 0);
            check.due("told(8)", x.told(8), i);
        }
        check.due("correct FULL", x.correct(0, 0, 1000, 0), FULL);
        check.due("correct FULL", x.correct(1, 0, 1000, 0), FULL);
        check.due("correct OUTSIDE", x.correct(1, 0, 2001, 0), OUTSIDE);
        check.due("told(8)", x.told(8), 20);
        check.due("reading(0, 0)", x.reading(0, 0), 20);
        check.due("reading(1, 0)", x.reading(1, 0), 19);
    }

    private static void correctTellsAnew() {
        EngineCell x = rising();
        channel(x, 0, 1, 0, -10000, 550, 0);
        channel(x, 3, 1, 0, -10000, -7, 1);
        x.start();
        x.tick(6);
        x.correct(0, 3, 333, -150);
        long[] wants = {0, 100, 200, -51, -17, 16, 33};
        for (int tick = 0; tick < wants.length; tick++) {
            check.due("reading(0, " + tick + ")", x.reading(0, tick), wants[tick]);
        }
        // it is cut to RANGE first, and FULL as it was
        check.due("state(0, 6)", x.state(0, 6), 1);
        x.correct(1, 0, 500, 0);
        check.due("a quotient cut toward 0", x.reading(1, 2), -3);
        x.correct(1, 0, 2000, 1000);
        check.due("reading(1, 2)", x.reading(1, 2), 986);
    }

    private static void latestCorrectionCounts() {
        EngineCell x = rising();
        channel(x, 0, 1, 0, 0, 10000, 0);
        channel(x, 0, 1, 0, 0, 10000, 1);
        x.start();
        x.tick(8);
        x.correct(0, 2, 2000, 0);
        x.correct(0, 6, 1000, 1);
        x.correct(0, 4, 1000, 2);
        x.correct(1, 0, 1000, 3);
        long[] wants = {0, 100, 400, 600, 402, 502, 602, 702, 802};
        for (int tick = 0; tick < wants.length; tick++) {
            check.due("reading(0, " + tick + ")", x.reading(0, tick), wants[tick]);
            check.due("reading(1, " + tick + ")", x.reading(1, tick), 100 * tick + 3);
        }
        x.correct(0, 0, 1000, 0);
        check.due("reading(0, 8)", x.reading(0, 8), 800);
    }

    private static void other() {
        EngineCell x = rising();
        channel(x, 0, 1, 0, 0, 10000, 0);
        channel(x, 0, 2, 0, 0, 10000, 1);
        check.due("other(0)", x.other(0), UNKNOWN);
        x.start();
        x.tick(5);
        // 200, 400: the least stays, if they are corrected from TICK 4 on
        check.due("correct", x.correct(1, 4, 1000, 1), 3);
        int[] wants = {14, 15, 16};
        for (int i = 0; i < 3; i++) {
            check.due("other(" + i + ")", x.other(i), wants[i]);
        }
        check.due("other(3)", x.other(3), UNKNOWN);
        check.due("other(-1)", x.other(-1), UNKNOWN);
        check.due("correct to the same", x.correct(1, 4, 1000, 1), 0);
        check.due("other(0)", x.other(0), UNKNOWN);
        // from 200, 400 to 201, 399: the sum and the area stay
        x.correct(1, 4, 1000, 0);
        check.due("correct", x.correct(1, 0, 990, 3), 2);
        check.due("other(0)", x.other(0), 13);
        check.due("other(1)", x.other(1), 14);
        check.due("other(2)", x.other(2), UNKNOWN);
    }

    private static void otherOverSpans() {
        EngineCell x = with(0, 2, 0, 0, 4, 0, 0, 0, 1, 3, 900, 0, 4, 0, 0, 0, 0, 1, 0, 0, 4, 0, 0, 0, 0, 2, 0, 0);
        x.lag(1);
        channel(x, 1, 1, 0, 0, 10000, 0);
        channel(x, 0, 1, 0, 0, 10000, 1);
        x.start();
        x.tick(8);
        check.due("told(5)", x.told(5), 3);
        check.due("correct ahead of all", x.correct(1, 0, 1000, 5), 11);
        int[] wants = {13, 14, 15, 16, 93, 94, 95, 173, 174, 175, 176};
        for (int i = 0; i < wants.length; i++) {
            check.due("other(" + i + ")", x.other(i), wants[i]);
        }
        check.due("other(11)", x.other(11), UNKNOWN);
        check.due("correct from a span on", x.correct(1, 6, 1000, 6), 7);
        check.due("other(0)", x.other(0), 93);
        check.due("other(6)", x.other(6), 176);
        check.due("correct beyond", x.correct(1, 9, 1, 0), 0);
        check.due("other(0)", x.other(0), UNKNOWN);
        check.due("correct none", x.correct(0, 0, 2000, 0), 0);
        check.due("correct to numbers", x.correct(0, 0, 2000, -4), 11);
        check.due("other(0)", x.other(0), 3);
        check.due("other(10)", x.other(10), 166);
    }

    private static void otherOverTwentySpans() {
        EngineCell x = with(4, 0, 0, 0, 0, 2, 0, 0, 3, 0, 30, 0);
        channel(x, 3, 1, 0, 0, 10000, 0);
        x.start();
        x.tick(60);
        check.due("correct", x.correct(0, 0, 1000, 1), 80);
        for (int i = 0; i < 80; i++) {
            check.due("other(" + i + ")", x.other(i), 80 * (i / 4) + 3 + i % 4);
        }
        check.due("other(80)", x.other(80), UNKNOWN);
    }

    private static void otherStays() {
        EngineCell x = rising();
        channel(x, 0, 1, 0, 0, 10000, 0);
        x.start();
        x.tick(3);
        x.correct(0, 0, 1000, 1);
        check.due("correct OUTSIDE", x.correct(0, 0, 1000, 1001), OUTSIDE);
        check.due("correct UNKNOWN", x.correct(1, 0, 1000, 0), UNKNOWN);
        x.tick(1);
        x.lose(0, 0, 3000);
        check.due("other(3)", x.other(3), 6);
        check.due("other(4)", x.other(4), UNKNOWN);
    }

    private static void readingOfEachSource() {
        EngineCell x = with(1, 1, 8000, 1000, 0, 5, 0, 0);
        x.map(9, 100);
        for (int source = 0; source < 5; source++) {
            channel(x, source, 1, 0, -10000, 10000, source);
        }
        x.start();
        x.tick(2);
        int[][] wants = {{0, 0, 0, 20, 0}, {2000, 100, 300, 38, 300}, {3500, 25, 262, 52, 150}};
        for (int tick = 0; tick < 3; tick++) {
            for (int c = 0; c < 5; c++) {
                check.due("reading(" + c + ", " + tick + ")", x.reading(c, tick), wants[tick][c]);
            }
        }
    }

    private static void readingByRateAndDelay() {
        EngineCell x = rising();
        channel(x, 0, 3, 2, 0, 10000, 0);
        channel(x, 0, 20, 20, 0, 10000, 1);
        check.due("reading(0, 0)", x.reading(0, 0), LOST);
        check.due("state(0, 0)", x.state(0, 0), 2);
        x.start();
        x.tick(20);
        long[] wants = {LOST, 100, 400, 700, 1000, 1000, 1000};
        for (int tick = 0; tick < 21; tick++) {
            boolean there = tick % 3 == 0;
            check.due("reading(0, " + tick + ")", x.reading(0, tick), there ? wants[tick / 3] : LOST);
            check.due("state(0, " + tick + ")", x.state(0, tick), !there ? UNKNOWN : tick == 0 ? 2 : 0);
        }
        check.due("reading(1, 0)", x.reading(1, 0), LOST);
        check.due("reading(1, 20)", x.reading(1, 20), 0);
        check.due("reading(0, 21)", x.reading(0, 21), LOST);
        check.due("state(0, 21)", x.state(0, 21), UNKNOWN);
        check.due("reading(0, -3)", x.reading(0, -3), LOST);
        check.due("state(0, -3)", x.state(0, -3), UNKNOWN);
        EngineCell y = rising();
        channel(y, 0, 1, 0, 0, 10000, 0);
        check.due("state(0, -1)", y.state(0, -1), UNKNOWN);
        check.due("reading(0, -1)", y.reading(0, -1), LOST);
        check.due("reading(2, 0)", x.reading(2, 0), LOST);
        check.due("state(2, 0)", x.state(2, 0), UNKNOWN);
        check.due("reading(-1, 0)", x.reading(-1, 0), LOST);
        check.due("state(-1, 0)", x.state(-1, 0), UNKNOWN);
        check.due("state(MAX, MAX)", x.state(MAX, MAX), UNKNOWN);
        check.due("reading(0, MIN)", x.reading(0, MIN), LOST);
    }

    private static void readingIsCutToRange() {
        EngineCell x = rising();
        channel(x, 0, 1, 0, 200, 400, 0);
        x.start();
        x.tick(6);
        int[] wants = {200, 200, 200, 300, 400, 400, 400};
        int[] full = {1, 1, 0, 0, 0, 1, 1};
        for (int tick = 0; tick < 7; tick++) {
            check.due("reading(0, " + tick + ")", x.reading(0, tick), wants[tick]);
            check.due("state(0, " + tick + ")", x.state(0, tick), full[tick]);
        }
        check.dueReport(x, 0, 0, 6, 0, 3, 200, 400, 1900, 3200, 0);
        EngineCell y = rising();
        channel(y, 0, 1, 2, 0, 150, 0);
        y.start();
        y.tick(5);
        int[] late = {2, 2, 0, 0, 1, 1};
        for (int tick = 0; tick < 6; tick++) {
            check.due("state(0, " + tick + ")", y.state(0, tick), late[tick]);
        }
    }

    private static void stateTellsLostAheadOfFull() {
        EngineCell x = rising();
        channel(x, 0, 1, 1, 5, 9, 0);
        x.start();
        x.tick(3);
        check.due("state(0, 0)", x.state(0, 0), 2);
        check.due("state(0, 1)", x.state(0, 1), 1);
        x.lose(0, 1, 2);
        check.due("state(0, 1)", x.state(0, 1), 2);
        check.due("state(0, 3)", x.state(0, 3), 1);
        check.dueReport(x, 0, 0, 1, 2, 1, 9, 9, 9, 0, 0);
    }

    private static void reportRefusals() {
        EngineCell x = rising();
        channel(x, 0, 1, 0, 0, 10000, 0);
        check.due("report of no SPAN", x.report(0, 0, 0), LOST);
        x.start();
        x.tick(2);
        check.due("report(0, 0, 0)", x.report(0, 0, 0), 2);
        check.due("report(1, 0, 0)", x.report(1, 0, 0), LOST);
        check.due("report(-1, 0, 0)", x.report(-1, 0, 0), LOST);
        check.due("report(0, 1, 0)", x.report(0, 1, 0), LOST);
        check.due("report(0, -1, 0)", x.report(0, -1, 0), LOST);
        check.due("report(0, 0, 8)", x.report(0, 0, 8), LOST);
        check.due("report(0, 0, -1)", x.report(0, 0, -1), LOST);
    }

    private static void reportNumbers() {
        // MARKS at TICKS 1, 6
        EngineCell x = with(4, 0, 0, 0, 1, 5, 1000, 0, 4, 0, 0, 0, 1, 4, 0, 0, 0, 99, 0, 0);
        x.lag(1);
        channel(x, 0, 1, 0, 0, 700, 0);
        channel(x, 0, 2, 0, 0, 10000, 1);
        x.start();
        x.tick(9);
        check.dueReport(x, 0, 0, 5, 0, 2, 200, 700, 2600, 2000 + 600 + 1700, 0);
        check.dueReport(x, 1, 0, 4, 0, 1, 0, 700, 1450, 1200 + 750 + 250, 0);
        check.dueReport(x, 0, 1, 2, 0, 0, 400, 800, 1200, 2400, 0);
        check.dueReport(x, 1, 1, 2, 0, 0, 250, 750, 1000, 2000, 0);
    }

    private static void reportWithGaps() {
        EngineCell x = rising();
        channel(x, 0, 2, 0, 0, 10000, 0);
        channel(x, 0, 2, 0, 0, 10000, 1);
        x.start();
        x.tick(16);
        x.lose(0, 4, 4);
        x.lose(0, 9, 13);
        x.lose(1, 0, 14);
        // 200, 600, 800, 1000, 1000 at TICKS 2, 6, 8, 14, 16
        check.dueReport(x, 0, 0, 5, 3, 0, 200, 1000, 3600, 2800 + 4000, 2);
        check.dueReport(x, 0, 1, 1, 7, 0, 1000, 1000, 1000, 0, 0);
        x.lose(1, 16, 16);
        check.dueReport(x, 0, 1, 0, 8, 0, 0, 0, 0, 0, 0);
    }

    private static void reportOfNone() {
        EngineCell x = rising();
        channel(x, 0, 20, 0, 0, 10000, 0);
        x.start();
        x.tick(19);
        check.dueReport(x, 0, 0, 0, 0, 0, 0, 0, 0, 0, 0);
        x.tick(1);
        check.dueReport(x, 0, 0, 1, 0, 0, 1000, 1000, 1000, 0, 0);
    }

    private static void reportOfLostOnly() {
        EngineCell x = rising();
        channel(x, 0, 1, 20, -5, -5, 0);
        x.start();
        x.tick(19);
        check.dueReport(x, 0, 0, 0, 19, 0, 0, 0, 0, 0, 0);
        x.tick(2);
        check.dueReport(x, 0, 0, 2, 19, 2, -5, -5, -10, -10, 0);
        x.correct(0, 21, 1000, -1);
        check.dueReport(x, 0, 0, 2, 19, 2, -6, -5, -11, -11, 0);
    }

    private static void reportOfEmptySpans() {
        EngineCell x = with(4, 0, 0, 0, 4, 0, 0, 0, 0, 1, 0, 0, 4, 0, 0, 0);
        channel(x, 3, 1, 0, 0, 10000, 0);
        x.start();
        x.tick(12);
        // MARKS at 1, 1, 2
        check.dueReport(x, 0, 0, 0, 0, 0, 0, 0, 0, 0, 0);
        check.dueReport(x, 1, 0, 1, 0, 0, 20, 20, 20, 0, 0);
        check.due("report(2, 0, 0)", x.report(2, 0, 0), 10);
    }

    private static void reportWhileItGrows() {
        EngineCell x = rising();
        channel(x, 0, 1, 0, 0, 10000, 0);
        x.start();
        for (int tick = 1; tick < 6; tick++) {
            x.tick(1);
            check.due("report(0, 0, 5)", x.report(0, 0, 5), 50 * tick * (tick + 1));
        }
    }

    private static void lawRefusals() {
        EngineCell x = rising();
        check.due("valid of none", x.valid(0), UNKNOWN);
        check.due("law of none", x.law(0, 0), LOST);
        channel(x, 0, 1, 0, 0, 10000, 0);
        check.due("valid(-1)", x.valid(-1), UNKNOWN);
        check.due("valid(1)", x.valid(1), UNKNOWN);
        check.due("law(1, 0)", x.law(1, 0), LOST);
        check.due("law(-1, 0)", x.law(-1, 0), LOST);
        check.due("law(0, 5)", x.law(0, 5), LOST);
        check.due("law(0, -1)", x.law(0, -1), LOST);
        dueLaw(x, 1, 1, 0, 0, 0, 0);
    }

    private static void dueLaw(EngineCell x, int valid, long... wants) {
        check.due("valid(0)", x.valid(0), valid);
        for (int what = 0; what < wants.length; what++) {
            check.due("law(0, " + what + ")", x.law(0, what), wants[what]);
        }
    }

    private static void lawNumbers() {
        EngineCell x = rising();
        channel(x, 0, 1, 0, 0, 10000, 0);
        x.start();
        x.tick(2);
        // x = y = 0, 100, 200
        dueLaw(x, 0, 3, 3 * 50000 - 90000, 3 * 50000 - 90000, 0, 0);
        x.correct(0, 2, 1000, -7);
        // y = 0, 100, 193
        dueLaw(x, 0, 3, 3 * 48600 - 300 * 293, 60000, -7, 7);
        x.correct(0, 1, 1000, 3);
        dueLaw(x, 0, 3, 3 * 50900 - 300 * 306, 60000, 6, 3);
    }

    private static void lawLooksDelayAhead() {
        EngineCell x = rising();
        channel(x, 0, 2, 1, 0, 10000, 0);
        x.start();
        x.tick(5);
        // x = y = 100, 300 at TICKS 2, 4
        dueLaw(x, 0, 2, 2 * 100000 - 160000, 40000, 0, 0);
    }

    private static void lawFirst() {
        EngineCell x = rising();
        channel(x, 0, 1, 0, 0, 10000, 0);
        x.start();
        x.tick(10);
        int[] factors = {949, 950, 1050, 1051, 1000, 2000};
        int[] wants = {1, 0, 0, 1, 0, 1};
        for (int i = 0; i < factors.length; i++) {
            x.correct(0, 0, factors[i], 0);
            check.due("valid(0) times " + factors[i], x.valid(0), wants[i]);
        }
    }

    private static void lawSecond() {
        EngineCell x = rising();
        channel(x, 0, 1, 0, 0, 10000, 0);
        x.start();
        x.tick(10);
        int[] more = {50, 51, -50, -51, 400, 401, 1000, -1000};
        int[] wants = {0, 2, 0, 2, 2, 2, 2, 2};
        for (int i = 0; i < more.length; i++) {
            x.correct(0, 0, 1000, more[i]);
            dueLaw(x, wants[i], 11, 1210000 * 10, 1210000 * 10, 11 * more[i], Math.abs(more[i]));
        }
        // the first fails ahead of the second
        x.correct(0, 0, 900, 1000);
        check.due("valid(0)", x.valid(0), 1);
    }

    private static void lawThird() {
        int[] more = {400, 401, -400, -401};
        int[] wants = {0, 3, 0, 3};
        EngineCell x = with(1, 40, 8000, 0, 0, 500, 0, 0);
        x.lag(1);
        channel(x, 0, 1, 0, 0, 10000, 0);
        x.start();
        x.tick(60);
        x.correct(0, 20, 1000, 0);
        for (int i = 0; i < more.length; i++) {
            x.correct(0, 20, 1000, more[i]);
            x.correct(0, 21, 1000, 0);
            check.due("law(0, 3)", x.law(0, 3), more[i]);
            check.due("law(0, 4)", x.law(0, 4), Math.abs(more[i]));
            check.due("valid(0)", x.valid(0), wants[i]);
        }
    }

    private static void lawEdges() {
        // x = y = 0, 1: B is 1
        EngineCell w = with(1, 1, 1, 0);
        channel(w, 0, 1, 0, 0, 10000, 0);
        w.start();
        w.tick(1);
        dueLaw(w, 0, 2, 1, 1, 0, 0);
        // WANTED SPEED stays 0: B is 0
        EngineCell x = with(0, 9, 0, 0);
        channel(x, 3, 1, 0, 0, 10000, 0);
        x.start();
        x.tick(9);
        dueLaw(x, 1, 10, 0, 0, 200, 20);
        // the greatest that can be: half of 3001 TICKS at 8000, told twice and 1000
        EngineCell y = with(0, 500, 0, 0, 3, 0, 2, 0, 1, 1, 8000, 0, 0, 500, 0, 0, 3, 3, 100, 0);
        y.lag(1);
        channel(y, 0, 1, 0, 0, 10000, 0);
        y.correct(0, 0, 2000, 1000);
        y.start();
        y.tick(1000);
        y.tick(1000);
        y.tick(1000);
        dueLaw(y, 1, 3001, 2L * 1500 * 1501 * 64000000, 1500L * 1501 * 64000000, 1501000L + 1500 * 9000, 9000);
    }

    private static void lawLeavesLostOut() {
        EngineCell x = rising();
        channel(x, 0, 1, 0, 0, 150, 0);
        x.start();
        x.tick(4);
        x.lose(0, 3, 4);
        // x = 0, 100, 200; y = 0, 100, 150
        dueLaw(x, 1, 3, 3 * 40000 - 300 * 250, 60000, -50, 50);
        x.lose(0, 0, 4);
        dueLaw(x, 1, 0, 0, 0, 0, 0);
    }
}
