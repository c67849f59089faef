import java.util.ArrayList;
import java.util.List;

/**
 * The document once more, read plainly and kept in other forms than the class keeps it: rows of the
 * machine for SHEETS, whose faults are the machine's own; classes for STEPS; every TICK looked at.
 */
final class Model {
    private static final int UNKNOWN = -1, OUTSIDE = -2, STATE = -3, FULL = -4, NONE = -9;
    private static final long LOST = Long.MIN_VALUE;

    /** A STEP; a MARK is a LOOP, RAMP and WAIT are HOLDS, and DRAWN is lent. */
    private interface Drawn {
        default int draw(Model room) {
            room.leave(5);
            return 100 + ((Step) this).kind;
        }
    }

    private abstract static class Step implements Drawn {
        final int kind, a, b, c;
        int ledBack = 0;

        Step(int kind, int a, int b, int c) {
            this.kind = kind;
            this.a = a;
            this.b = b;
            this.c = c;
        }

        abstract int tell(Model room);
    }

    private static class Hold extends Step {
        Hold(int kind, int a, int b, int c) {
            super(kind, a, b, c);
        }

        @Override int tell(Model room) {
            room.leave(1);
            return a;
        }
    }

    private static final class Ramp extends Hold {
        Ramp(int a, int b, int c) {
            super(1, a, b, c);
        }

        @Override int tell(Model room) {
            room.leave(2);
            return 10 * super.tell(room);
        }

        @Override public int draw(Model room) {
            room.leave(6);
            return 3;
        }
    }

    private static final class Wait extends Hold {
        Wait(int a, int b, int c) {
            super(2, a, b, c);
        }

        @Override int tell(Model room) {
            room.leave(3);
            return super.tell(room) + c;
        }
    }

    private static class Loop extends Step {
        Loop(int kind, int a, int b, int c) {
            super(kind, a, b, c);
        }

        @Override int tell(Model room) {
            room.leave(4);
            return 7;
        }
    }

    private static final class Mark extends Loop {
        Mark(int a, int b, int c) {
            super(4, a, b, c);
        }
    }

    private static final Class<?>[] KINDS = {Hold.class, Ramp.class, Wait.class, Loop.class, Mark.class};

    private final int[][] map = new int[5][5];
    private int lag = 4;
    private final List<Step> steps = new ArrayList<>();
    private final List<int[]> ticks = new ArrayList<>();
    private final List<Integer> marks = new ArrayList<>();
    private final List<int[]> channels = new ArrayList<>();
    private final Integer[] limits = new Integer[8];
    private final List<int[]> losses = new ArrayList<>();
    private final List<int[]> corrections = new ArrayList<>();
    private List<Integer> others = new ArrayList<>();
    private int room = 0, at = 0, kind = NONE, acts = 0, ofStep = 0;
    private int rampSpeed, rampPedal;
    private final Object[] sheets = new Object[4];
    private int trace = 0, fault = 0;

    Model() {
        ticks.add(new int[] {0, 0, 0, 20, 0, 0, 0});
    }

    private void leave(int number) {
        trace = trace * 31 + number;
    }

    private int now() {
        return ticks.size() - 1;
    }

    private static boolean isOff(int v, int from, int to) {
        return v < from || v > to;
    }

    // ---- 1 the engine

    int map(int k, int v) {
        if (isOff(k, 0, 24)) return UNKNOWN;
        if (isOff(v, -500, 1000)) return OUTSIDE;
        if (room != 0) return STATE;
        int old = map[k / 5][k % 5];
        map[k / 5][k % 5] = v;
        return old;
    }

    long torque(int speed, int pedal) {
        if (isOff(speed, 0, 8000) || isOff(pedal, 0, 1000)) return LOST;
        int i = 0, j = 0;
        while (i < 3 && speed - 2000 * i > 2000) i++;
        while (j < 3 && pedal - 250 * j > 250) j++;
        long u = speed - 2000 * i, w = pedal - 250 * j;
        long[] weights = {(2000 - u) * (250 - w), u * (250 - w), (2000 - u) * w, u * w};
        int[] numbers = {map[i][j], map[i + 1][j], map[i][j + 1], map[i + 1][j + 1]};
        long sum = 0;
        for (int k = 0; k < 4; k++) sum += weights[k] * numbers[k];
        return sum / 500000;
    }

    int lag(int n) {
        if (isOff(n, 1, 20)) return OUTSIDE;
        if (room != 0) return STATE;
        int old = lag;
        lag = n;
        return old;
    }

    // ---- 2 the program

    private static Step make(int number, int kind, int a, int b, int c) {
        if (kind == 0) return isOff(a, 1, 500) ? null : new Hold(0, a, b, c);
        if (kind == 1) {
            return isOff(a, 1, 500) || isOff(b, 0, 8000) || isOff(c, 0, 1000) ? null : new Ramp(a, b, c);
        }
        if (kind == 2) return isOff(c, 1, 500) ? null : new Wait(a, b, c);
        if (kind == 3) return isOff(a, 0, number) || isOff(b, 1, 100) ? null : new Loop(3, a, b, c);
        return kind == 4 ? new Mark(a, b, c) : null;
    }

    int step(int kind, int a, int b, int c) {
        if (room != 0) return STATE;
        Step step = make(steps.size(), kind, a, b, c);
        if (step == null) return OUTSIDE;
        if (steps.size() == 30) return FULL;
        steps.add(step);
        return steps.size() - 1;
    }

    private int faulted(int number) {
        fault = number;
        return -10 - number;
    }

    private static int cell(Object row, int lane, int i) {
        return lane == 0 ? ((byte[]) row)[i] : lane == 1 ? ((short[]) row)[i] : ((int[]) row)[i];
    }

    private static int length(Object row) {
        return java.lang.reflect.Array.getLength(row);
    }

    /** The machine's own fault, as the row is taken as one of a LANE: 0, 1 or 2. */
    private static int taken(Object row, int lane) {
        try {
            Object same = lane == 0 ? (Object) (byte[]) row : lane == 1 ? (Object) (short[]) row : (int[]) row;
            return same == null ? 1 : 0;
        } catch (ClassCastException unlike) {
            return 2;
        }
    }

    int load(int sheet, int lane, int i, int n) {
        fault = 0;
        if (isOff(sheet, 0, 3)) return UNKNOWN;
        if (isOff(lane, 0, 2)) return OUTSIDE;
        if (room != 0) return STATE;
        Object row = sheets[sheet];
        int come = taken(row, lane);
        if (come != 0) return faulted(come);
        if (n < 0) return faulted(4);
        if (i < 0 || (long) i + 4L * n > length(row)) return faulted(3);
        List<Step> more = new ArrayList<>();
        for (int k = i; more.size() < n; k += 4) {
            Step step = make(steps.size() + more.size(), cell(row, lane, k), cell(row, lane, k + 1),
                cell(row, lane, k + 2), cell(row, lane, k + 3));
            if (step == null) return OUTSIDE;
            more.add(step);
        }
        if (steps.size() + n > 30) return FULL;
        steps.addAll(more);
        return steps.size();
    }

    int clear() {
        if (room != 0) return STATE;
        int old = steps.size();
        steps.clear();
        return old;
    }

    int stepped(int s, int what) {
        if (isOff(s, 0, steps.size() - 1)) return UNKNOWN;
        Step step = steps.get(s);
        return isOff(what, 0, 3) ? OUTSIDE : new int[] {step.kind, step.a, step.b, step.c}[what];
    }

    int start() {
        if (room != 0 || steps.isEmpty()) return STATE;
        room = 1;
        at = 0;
        ofStep = 0;
        for (Step step : steps) step.ledBack = 0;
        return 1;
    }

    int tick(int n) {
        if (isOff(n, 0, 1000)) return OUTSIDE;
        if (room == 0) return STATE;
        int done = 0;
        for (; done < n && (room == 1 || room == 2) && now() < 3000; done++) one();
        return done;
    }

    private void next(int s) {
        at = s;
        ofStep = 0;
    }

    private void halt(int by) {
        kind = by;
        room = 2;
    }

    private void one() {
        int[] old = ticks.get(now());
        int[] wants = {old[5], old[6]};
        if (room == 1) through(wants);
        boolean isLast = room == 2;
        if (isLast) {
            wants[0] = 800;
            wants[1] = 0;
        }
        int more = (wants[0] - old[0]) / lag;
        if (more == 0 && wants[0] > old[0]) more = 1;
        if (more == 0 && wants[0] < old[0]) more = -1;
        int speed = old[0] + more;
        int torque = (int) torque(speed, wants[1]);
        int fuel = speed * (torque + 50) / 1000;
        if (fuel < 0) fuel = 0;
        int heat = old[3] + (fuel - 2 * (old[3] - 20)) / 16;
        int smoke = torque > old[1] ? 3 * (torque - old[1]) : old[4] / 2;
        ticks.add(new int[] {speed, torque, fuel, heat, smoke, wants[0], wants[1]});
        if (isLast) {
            acts++;
            if (acts == 10) room = 3;
            return;
        }
        for (int c = 0; c < channels.size() && room == 1; c++) {
            long value = reading(c, now());
            if (limits[c] != null && value != LOST && value > limits[c]) halt(1);
        }
    }

    private void through(int[] wants) {
        int passed = 0;
        while (room == 1) {
            if (at == steps.size()) {
                halt(0);
                return;
            }
            passed++;
            if (passed == 51) {
                halt(3);
                return;
            }
            Step step = steps.get(at);
            if (step instanceof Mark) {
                if (marks.size() < 20) marks.add(now() + 1);
                next(at + 1);
            } else if (step instanceof Loop) {
                boolean back = step.ledBack < step.b;
                step.ledBack = back ? step.ledBack + 1 : 0;
                next(back ? step.a : at + 1);
            } else if (step instanceof Wait) {
                if (step.a < 0 || step.a >= channels.size()) {
                    halt(2);
                    return;
                }
                int latest = now();
                while (latest % channels.get(step.a)[1] != 0) latest--;
                long value = reading(step.a, latest);
                if (value != LOST && value >= step.b) {
                    next(at + 1);
                } else if (ofStep == step.c) {
                    halt(2);
                } else {
                    ofStep++;
                    return;
                }
            } else {
                if (ofStep == 0) {
                    rampSpeed = wants[0];
                    rampPedal = wants[1];
                }
                ofStep++;
                if (step instanceof Ramp) {
                    wants[0] = rampSpeed + ofStep * (step.b - rampSpeed) / step.a;
                    wants[1] = rampPedal + ofStep * (step.c - rampPedal) / step.a;
                }
                if (ofStep == step.a) next(at + 1);
                return;
            }
        }
    }

    int stop() {
        if (room != 1) return STATE;
        halt(4);
        return 1;
    }

    int reset() {
        if (room == 1 || room == 2) return STATE;
        int old = now();
        while (ticks.size() > 1) ticks.remove(ticks.size() - 1);
        marks.clear();
        room = 0;
        at = 0;
        kind = NONE;
        acts = 0;
        return old;
    }

    int told(int what) {
        int[] all = {room, now(), at, kind, acts, marks.size(), steps.size(), channels.size(), corrections.size(), lag};
        return isOff(what, 0, 9) ? OUTSIDE : all[what];
    }

    int was(int tick, int what) {
        if (isOff(tick, 0, now())) return UNKNOWN;
        return isOff(what, 0, 6) ? OUTSIDE : ticks.get(tick)[what];
    }

    int mark(int m) {
        return isOff(m, 0, marks.size() - 1) ? UNKNOWN : marks.get(m);
    }

    // ---- 3 channels

    int channel(int source, int rate, int delay, int low, int high) {
        if (room != 0) return STATE;
        if (isOff(source, 0, 4) || isOff(rate, 1, 20) || isOff(delay, 0, 20)) return OUTSIDE;
        if (isOff(low, -10000, 10000) || isOff(high, -10000, 10000) || low > high) return OUTSIDE;
        if (channels.size() == 8) return FULL;
        channels.add(new int[] {source, rate, delay, low, high});
        return channels.size() - 1;
    }

    int limit(int c, int v) {
        if (isOff(c, 0, channels.size() - 1)) return UNKNOWN;
        if (isOff(v, -30000, 30000)) return OUTSIDE;
        limits[c] = v;
        return 1;
    }

    int lose(int c, int from, int to) {
        if (isOff(c, 0, channels.size() - 1)) return UNKNOWN;
        if (isOff(from, 0, 3000) || isOff(to, from, 3000)) return OUTSIDE;
        if (losses.size() == 20) return FULL;
        losses.add(new int[] {c, from, to});
        return losses.size();
    }

    int correct(int c, int from, int g, int h) {
        if (isOff(c, 0, channels.size() - 1)) return UNKNOWN;
        if (isOff(from, 0, 3000) || isOff(g, 1, 2000) || isOff(h, -1000, 1000)) return OUTSIDE;
        if (corrections.size() == 20) return FULL;
        List<Long> ahead = all();
        corrections.add(new int[] {c, from, g, h});
        List<Long> behind = all();
        others = new ArrayList<>();
        for (int i = 0; i < ahead.size(); i++) {
            int span = i / (channels.size() * 8);
            int channel = i / 8 % channels.size();
            if (!ahead.get(i).equals(behind.get(i))) others.add(80 * span + 10 * channel + i % 8);
        }
        return others.size();
    }

    private List<Long> all() {
        List<Long> numbers = new ArrayList<>();
        for (int span = 0; span < marks.size(); span++) {
            for (int c = 0; c < channels.size(); c++) {
                for (long number : reported(span, c)) numbers.add(number);
            }
        }
        return numbers;
    }

    int other(int i) {
        return isOff(i, 0, others.size() - 1) ? UNKNOWN : others.get(i);
    }

    long reading(int c, int tick) {
        int state = state(c, tick);
        if (state == UNKNOWN || state == 2) return LOST;
        int[] channel = channels.get(c);
        long value = ticks.get(tick - channel[2])[channel[0]];
        if (value < channel[3]) value = channel[3];
        if (value > channel[4]) value = channel[4];
        int[] latest = null;
        for (int[] correction : corrections) {
            if (correction[0] == c && correction[1] <= tick) latest = correction;
        }
        return latest == null ? value : value * latest[2] / 1000 + latest[3];
    }

    int state(int c, int tick) {
        if (isOff(c, 0, channels.size() - 1) || isOff(tick, 0, now())) return UNKNOWN;
        int[] channel = channels.get(c);
        if (tick % channel[1] != 0) return UNKNOWN;
        if (tick - channel[2] < 0) return 2;
        for (int[] loss : losses) {
            if (loss[0] == c && loss[1] <= tick && tick <= loss[2]) return 2;
        }
        int value = ticks.get(tick - channel[2])[channel[0]];
        return value < channel[3] || value > channel[4] ? 1 : 0;
    }

    private long[] reported(int span, int c) {
        int last = span + 1 < marks.size() ? marks.get(span + 1) - 1 : now();
        long[] row = new long[8];
        List<Integer> there = new ArrayList<>();
        for (int tick = marks.get(span); tick <= last; tick++) {
            int state = state(c, tick);
            if (state == 2) row[1]++;
            if (state == 1) row[2]++;
            if (state == 0 || state == 1) there.add(tick);
        }
        row[0] = there.size();
        int rate = channels.get(c)[1];
        for (int i = 0; i < there.size(); i++) {
            long y = reading(c, there.get(i));
            row[3] = i == 0 || y < row[3] ? y : row[3];
            row[4] = i == 0 || y > row[4] ? y : row[4];
            row[5] += y;
            if (there.contains(there.get(i) + rate)) row[6] += rate * (y + reading(c, there.get(i) + rate));
            if (i > 0 && there.get(i) - there.get(i - 1) > rate) row[7]++;
        }
        return row;
    }

    long report(int span, int c, int what) {
        if (isOff(span, 0, marks.size() - 1) || isOff(c, 0, channels.size() - 1)) return LOST;
        return isOff(what, 0, 7) ? LOST : reported(span, c)[what];
    }

    /** n, A, B, the sum and the greatest of what is off. */
    private long[] sums(int c) {
        List<long[]> pairs = new ArrayList<>();
        for (int tick = 0; tick <= now(); tick++) {
            long y = reading(c, tick);
            if (y != LOST) pairs.add(new long[] {ticks.get(tick - channels.get(c)[2])[5], y});
        }
        long n = pairs.size(), x = 0, y = 0, xx = 0, xy = 0, off = 0, far = 0;
        for (long[] pair : pairs) {
            x += pair[0];
            y += pair[1];
            xx += pair[0] * pair[0];
            xy += pair[0] * pair[1];
            off += pair[1] - pair[0];
            far = Math.max(far, Math.abs(pair[1] - pair[0]));
        }
        return new long[] {n, n * xy - x * y, n * xx - x * x, off, far};
    }

    int valid(int c) {
        if (isOff(c, 0, channels.size() - 1)) return UNKNOWN;
        long[] sums = sums(c);
        boolean first = sums[2] > 0 && 950 * sums[2] <= 1000 * sums[1] && 1000 * sums[1] <= 1050 * sums[2];
        boolean second = -50 * sums[0] <= sums[3] && sums[3] <= 50 * sums[0];
        return !first ? 1 : !second ? 2 : sums[4] > 400 ? 3 : 0;
    }

    long law(int c, int what) {
        if (isOff(c, 0, channels.size() - 1) || isOff(what, 0, 4)) return LOST;
        return sums(c)[what];
    }

    // ---- 4 sheets, parts

    int sheet(int k, int lane, int n) {
        fault = 0;
        if (isOff(k, 0, 3)) return UNKNOWN;
        if (isOff(lane, 0, 2) || n > 40) return OUTSIDE;
        if (n < 0) return faulted(4);
        sheets[k] = lane == 0 ? new byte[n] : lane == 1 ? (Object) new short[n] : new int[n];
        return 1;
    }

    int drop(int k) {
        if (isOff(k, 0, 3)) return UNKNOWN;
        int had = sheets[k] == null ? 0 : 1;
        sheets[k] = null;
        return had;
    }

    int put(int k, int i, int v) {
        fault = 0;
        if (isOff(k, 0, 3)) return UNKNOWN;
        if (sheets[k] == null) return faulted(1);
        if (isOff(i, 0, length(sheets[k]) - 1)) return faulted(3);
        if (sheets[k] instanceof byte[] bytes) bytes[i] = (byte) v;
        if (sheets[k] instanceof short[] shorts) shorts[i] = (short) v;
        if (sheets[k] instanceof int[] ints) ints[i] = v;
        return 1;
    }

    long at(int k, int i, int lane) {
        fault = 0;
        if (isOff(k, 0, 3) || isOff(lane, 0, 2)) return LOST;
        fault = taken(sheets[k], lane);
        if (fault == 0 && isOff(i, 0, length(sheets[k]) - 1)) fault = 3;
        return fault != 0 ? LOST : cell(sheets[k], lane, i);
    }

    int tell(int s) {
        return isOff(s, 0, steps.size() - 1) ? UNKNOWN : steps.get(s).tell(this);
    }

    int draw(int s) {
        return isOff(s, 0, steps.size() - 1) ? UNKNOWN : steps.get(s).draw(this);
    }

    int as(int s, int kind) {
        fault = 0;
        if (isOff(s, 0, steps.size() - 1)) return UNKNOWN;
        if (isOff(kind, 0, 4)) return OUTSIDE;
        return KINDS[kind].isInstance(steps.get(s)) ? 1 : faulted(2);
    }

    int trace() {
        return trace;
    }

    int fault() {
        return fault;
    }
}
