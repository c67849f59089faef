import java.util.Random;

/** Runs of calls by chance (always the same ones), asked of the class and of the plain Model. */
public final class ModelTest {
    private static final int RUNS = 3000;
    // an object is used for 512 calls; the longest of these ways makes some twelve
    private static final int CALLS = 490;
    private static final int[] WILD = {Integer.MIN_VALUE, Integer.MAX_VALUE, -1, 0x40000000, 1 << 16};
    private static final Check check = new Check();

    private final Random chance;
    private final EngineCell x = new EngineCell();
    private final Model y = new Model();
    private final String name;

    private ModelTest(int run) {
        chance = new Random(run);
        name = "run " + run;
    }

    public static void main(String[] args) {
        for (int run = 0; run < RUNS; run++) {
            ModelTest test = new ModelTest(run);
            if (run % 10 != 0) {
                test.setUp();
            }
            while (test.calls < CALLS) {
                test.call();
            }
        }
        check.close("ModelTest");
    }

    private int calls = 0;

    private void due(String call, long got, long want) {
        calls++;
        check.due(name + ", call " + calls + ": " + call, got, want);
    }

    /** What told() answers, to choose arguments near to what there is. */
    private int known(int what) {
        calls++;
        return x.told(what);
    }

    /** A number from .. to, now and then one beside it or a wild one. */
    private int number(int from, int to) {
        int way = chance.nextInt(60);
        if (way == 0) return WILD[chance.nextInt(WILD.length)];
        if (way == 1) return from - 1;
        if (way == 2) return to + 1;
        if (way == 3) return from;
        if (way == 4) return to;
        return from + chance.nextInt(to - from + 1);
    }

    /** A number that tends to be small. */
    private int small(int from, int to) {
        return chance.nextInt(4) == 0 ? number(from, to) : number(from, Math.min(to, from + 6));
    }

    private void setUp() {
        for (int k = 0; k < 25; k++) {
            map(k, number(-500, 1000));
        }
        if (chance.nextBoolean()) lag(small(1, 20));
        int many = chance.nextInt(9);
        for (int c = 0; c < many; c++) channel();
        many = 1 + chance.nextInt(12);
        for (int s = 0; s < many; s++) step();
        if (chance.nextInt(3) == 0) limit();
    }

    private void map(int k, int v) {
        due("map(" + k + ", " + v + ")", x.map(k, v), y.map(k, v));
    }

    private void lag(int n) {
        due("lag(" + n + ")", x.lag(n), y.lag(n));
    }

    private void channel() {
        int source = number(0, 4);
        int rate = small(1, 20);
        int delay = small(0, 20);
        int low = chance.nextBoolean() ? -10000 : number(-10000, 10000);
        int high = chance.nextBoolean() ? 10000 : number(-1000, 10000);
        due("channel(" + source + ", " + rate + ", " + delay + ", " + low + ", " + high + ")",
            x.channel(source, rate, delay, low, high), y.channel(source, rate, delay, low, high));
    }

    private int[] stepNumbers() {
        int steps = known(6);
        switch (chance.nextInt(6)) {
            case 0: return new int[] {0, small(1, 500), number(-5, 5), number(-5, 5)};
            case 1: return new int[] {1, small(1, 500), number(0, 8000), number(0, 1000)};
            case 2: return new int[] {2, number(0, 7), number(-100, 3000), small(1, 500)};
            case 3: return new int[] {3, Math.max(0, steps - chance.nextInt(4)), small(1, 100), 0};
            case 4: return new int[] {4, number(-9, 9), number(-9, 9), number(-9, 9)};
            default: return new int[] {number(0, 4), number(0, 40), number(0, 100), number(0, 1000)};
        }
    }

    private void step() {
        int[] s = stepNumbers();
        due("step(" + s[0] + ", " + s[1] + ", " + s[2] + ", " + s[3] + ")",
            x.step(s[0], s[1], s[2], s[3]), y.step(s[0], s[1], s[2], s[3]));
    }

    private void limit() {
        int c = number(0, 7);
        int v = chance.nextInt(4) == 0 ? number(-30000, 30000) : number(0, 6000);
        due("limit(" + c + ", " + v + ")", x.limit(c, v), y.limit(c, v));
    }

    private void call() {
        switch (chance.nextInt(8)) {
            case 0: engineCall(); break;
            case 1: case 2: programCall(); break;
            case 3: case 4: roomCall(); break;
            case 5: channelCall(); break;
            case 6: reportCall(); break;
            default: sheetCall(); break;
        }
    }

    private void engineCall() {
        switch (chance.nextInt(4)) {
            case 0: map(number(0, 24), number(-500, 1000)); break;
            case 1: lag(number(1, 20)); break;
            default:
                int speed = number(0, 8000);
                int pedal = number(0, 1000);
                due("torque(" + speed + ", " + pedal + ")", x.torque(speed, pedal), y.torque(speed, pedal));
        }
    }

    private void programCall() {
        int s = number(0, Math.max(0, known(6) - 1));
        int w = number(0, 5);
        switch (chance.nextInt(14)) {
            case 0: case 1: case 2: step(); break;
            case 3: if (chance.nextInt(5) == 0) due("clear()", x.clear(), y.clear()); break;
            case 4: due("stepped(" + s + ", " + w + ")", x.stepped(s, w), y.stepped(s, w)); break;
            case 5: due("tell(" + s + ")", x.tell(s), y.tell(s)); break;
            case 6: due("draw(" + s + ")", x.draw(s), y.draw(s)); break;
            case 7: due("as(" + s + ", " + w + ")", x.as(s, w), y.as(s, w)); break;
            case 8: due("trace()", x.trace(), y.trace()); break;
            case 9: due("fault()", x.fault(), y.fault()); break;
            case 10: if (chance.nextInt(4) == 0) channel(); break;
            default: loadWhole();
        }
    }

    private void loadWhole() {
        int k = chance.nextInt(4);
        int lane = chance.nextInt(3);
        int n = chance.nextInt(3);
        due("sheet", x.sheet(k, lane, 12), y.sheet(k, lane, 12));
        int i = chance.nextInt(4);
        for (int m = 0; m < n; m++) {
            int[] cells = stepNumbers();
            for (int o = 0; o < 4; o++) {
                put(k, i + 4 * m + o, cells[o]);
            }
        }
        load(k, lane, i, n);
    }

    private void put(int k, int i, int v) {
        due("put(" + k + ", " + i + ", " + v + ")", x.put(k, i, v), y.put(k, i, v));
    }

    private void load(int k, int lane, int i, int n) {
        due("load(" + k + ", " + lane + ", " + i + ", " + n + ")", x.load(k, lane, i, n), y.load(k, lane, i, n));
    }

    private void roomCall() {
        int n = chance.nextInt(20) == 0 ? number(0, 1000) : small(0, 60);
        int tick = number(0, Math.max(1, known(1)));
        int w = number(0, 9);
        switch (chance.nextInt(12)) {
            case 0: due("start()", x.start(), y.start()); break;
            case 1: case 2: case 3: case 4: due("tick(" + n + ")", x.tick(n), y.tick(n)); break;
            case 5: if (chance.nextInt(4) == 0) due("stop()", x.stop(), y.stop()); break;
            case 6: due("reset()", x.reset(), y.reset()); break;
            case 7: case 8: due("told(" + w + ")", x.told(w), y.told(w)); break;
            case 9: case 10: due("was(" + tick + ", " + w + ")", x.was(tick, w), y.was(tick, w)); break;
            default:
                int m = number(0, Math.max(1, known(5)));
                due("mark(" + m + ")", x.mark(m), y.mark(m));
        }
    }

    private void channelCall() {
        int c = number(0, Math.max(0, known(7) - 1));
        int tick = number(0, Math.max(1, known(1)));
        int from = chance.nextInt(4) == 0 ? number(0, 3000) : tick;
        int to = chance.nextInt(4) == 0 ? number(0, 3000) : from + chance.nextInt(9);
        switch (chance.nextInt(10)) {
            case 0: limit(); break;
            case 1: due("lose(" + c + ", " + from + ", " + to + ")", x.lose(c, from, to), y.lose(c, from, to)); break;
            case 2:
                int g = number(1, 2000);
                int h = number(-1000, 1000);
                due("correct(" + c + ", " + from + ", " + g + ", " + h + ")",
                    x.correct(c, from, g, h), y.correct(c, from, g, h));
                break;
            case 3: case 4: case 5:
                due("reading(" + c + ", " + tick + ")", x.reading(c, tick), y.reading(c, tick));
                break;
            default: due("state(" + c + ", " + tick + ")", x.state(c, tick), y.state(c, tick));
        }
    }

    private void reportCall() {
        int c = number(0, Math.max(0, known(7) - 1));
        int span = number(0, Math.max(0, known(5) - 1));
        int w = number(0, 7);
        switch (chance.nextInt(8)) {
            case 0: due("valid(" + c + ")", x.valid(c), y.valid(c)); break;
            case 1: due("law(" + c + ", " + w + ")", x.law(c, w), y.law(c, w)); break;
            case 2: case 3:
                int i = number(0, 8);
                due("other(" + i + ")", x.other(i), y.other(i));
                break;
            default:
                due("report(" + span + ", " + c + ", " + w + ")", x.report(span, c, w), y.report(span, c, w));
        }
    }

    private void sheetCall() {
        int k = number(0, 3);
        int lane = number(0, 2);
        int i = small(0, 40);
        int n = small(0, 40);
        int v = chance.nextInt(2) == 0 ? number(-300, 300) : chance.nextInt();
        switch (chance.nextInt(8)) {
            case 0: due("sheet(" + k + ", " + lane + ", " + n + ")", x.sheet(k, lane, n), y.sheet(k, lane, n)); break;
            case 1: due("drop(" + k + ")", x.drop(k), y.drop(k)); break;
            case 2: case 3: put(k, i, v); break;
            case 4: case 5: due("at(" + k + ", " + i + ", " + lane + ")", x.at(k, i, lane), y.at(k, i, lane)); break;
            case 6: load(k, lane, i, chance.nextInt(3)); break;
            default: due("fault()", x.fault(), y.fault());
        }
    }
}
