/**
 * A room where an engine is run by a program. The face below looks at arguments and states, in the
 * order in which the document refuses; the classes inside do the work and look at their indexes.
 */
public final class EngineCell {
    public static final int UNKNOWN = -1, OUTSIDE = -2, STATE = -3, FULL = -4, NONE = -9;
    public static final long LOST = Long.MIN_VALUE;

    private static final int NO_FAULT = 0, NULL = 1, CAST = 2, INDEX = 3, SIZE = 4;
    private static final int SPEED = 0, TORQUE = 1, FUEL = 2, HEAT = 3, SMOKE = 4, WANTED = 5, PEDAL = 6, PARTS = 7;
    private static final int HOLD = 0, RAMP = 1, WAIT = 2, LOOP = 3, MARK = 4;
    private static final int STEP_CELLS = 4, KIND = 0, A = 1, B = 2, C = 3;
    private static final int OFF = 0, RUNNING = 1, STOPPING = 2, STOPPED = 3;
    private static final int BY_END = 0, BY_LIMIT = 1, BY_WAIT = 2, BY_LENGTH = 3, BY_HAND = 4;
    private static final int GREATEST_SPEED = 8000, GREATEST_PEDAL = 1000, GREATEST_RANGE = 10000;
    private static final int MAP_SIZE = 25, MAX_STEPS = 30, MAX_PASSED = 50, LAST_ACTS = 10, MAX_MARKS = 20;
    private static final int MAX_TICK = 3000, MAX_CALL_TICKS = 1000;
    private static final int MAX_CHANNELS = 8, MAX_TOLD = 20;
    private static final int SHEETS = 4, MAX_CELLS = 40, LANES = 3, BYTES = 0, SHORTS = 1;
    private static final int COUNT = 0, LOST_ONES = 1, FULL_ONES = 2, LEAST = 3, GREATEST = 4, SUM = 5, AREA = 6;
    private static final int GAPS = 7, NUMBERS = 8;

    private final Engine engine;
    private final Program program;
    private final Channels channels;
    private final Marks marks;
    private final Room room;
    private final Reports reports;
    private final Law rule;
    private final Bodies bodies;
    private final Sheet[] sheets;
    private int fault = NO_FAULT;

    public EngineCell() {
        engine = new Engine();
        program = new Program();
        channels = new Channels(engine);
        marks = new Marks();
        room = new Room(engine, program, channels, marks);
        reports = new Reports(engine, channels, marks);
        rule = new Law(engine, channels);
        bodies = new Bodies();
        sheets = new Sheet[SHEETS];
        for (int k = 0; k < SHEETS; k++) {
            sheets[k] = new Sheet();
        }
    }

    // ---- 1 the engine

    public int map(int k, int v) {
        if (!within(k, 0, MAP_SIZE - 1)) {
            return UNKNOWN;
        }
        if (!within(v, -500, 1000)) {
            return OUTSIDE;
        }
        if (!room.isOff()) {
            return STATE;
        }
        int old = engine.mapped(k);
        engine.remap(k, v);
        return old;
    }

    public long torque(int speed, int pedal) {
        if (!within(speed, 0, GREATEST_SPEED) || !within(pedal, 0, GREATEST_PEDAL)) {
            return LOST;
        }
        return engine.torqueAt(speed, pedal);
    }

    public int lag(int n) {
        if (!within(n, 1, 20)) {
            return OUTSIDE;
        }
        if (!room.isOff()) {
            return STATE;
        }
        int old = engine.lag;
        engine.lag = n;
        return old;
    }

    // ---- 2 the program

    public int step(int kind, int a, int b, int c) {
        if (!room.isOff()) {
            return STATE;
        }
        if (!Program.fits(program.count, kind, a, b, c)) {
            return OUTSIDE;
        }
        if (program.count >= MAX_STEPS) {
            return FULL;
        }
        program.add(kind, a, b, c);
        return program.count - 1;
    }

    public int load(int sheet, int lane, int i, int n) {
        fault = NO_FAULT;
        Sheet source = findSheet(sheet);
        if (source == null) {
            return UNKNOWN;
        }
        if (!within(lane, 0, LANES - 1)) {
            return OUTSIDE;
        }
        if (!room.isOff()) {
            return STATE;
        }
        int come = source.faultAs(lane);
        if (come == NO_FAULT) {
            come = n < 0 ? SIZE : source.faultFrom(i, (long) STEP_CELLS * n);
        }
        if (come != NO_FAULT) {
            return faulted(come);
        }
        if (!program.fitAll(source, i, n)) {
            return OUTSIDE;
        }
        if (n > MAX_STEPS - program.count) {
            return FULL;
        }
        program.addAll(source, i, n);
        return program.count;
    }

    public int clear() {
        if (!room.isOff()) {
            return STATE;
        }
        int old = program.count;
        program.count = 0;
        return old;
    }

    public int stepped(int s, int what) {
        if (!program.has(s)) {
            return UNKNOWN;
        }
        if (!within(what, 0, STEP_CELLS - 1)) {
            return OUTSIDE;
        }
        return program.cell(s, what);
    }

    public int start() {
        if (!room.isOff() || program.count == 0) {
            return STATE;
        }
        room.begin();
        return 1;
    }

    public int tick(int n) {
        if (!within(n, 0, MAX_CALL_TICKS)) {
            return OUTSIDE;
        }
        if (room.isOff()) {
            return STATE;
        }
        int done = 0;
        while (done < n && room.isGoing() && engine.tick < MAX_TICK) {
            room.oneTick();
            done++;
        }
        return done;
    }

    public int stop() {
        if (room.state != RUNNING) {
            return STATE;
        }
        room.halt(BY_HAND);
        return 1;
    }

    public int reset() {
        if (room.isGoing()) {
            return STATE;
        }
        int old = engine.tick;
        engine.tick = 0;
        marks.count = 0;
        room.rest();
        return old;
    }

    public int told(int what) {
        switch (what) {
            case 0: return room.state;
            case 1: return engine.tick;
            case 2: return room.at;
            case 3: return room.kind;
            case 4: return room.acts;
            case 5: return marks.count;
            case 6: return program.count;
            case 7: return channels.count;
            case 8: return channels.corrections.count;
            case 9: return engine.lag;
            default: return OUTSIDE;
        }
    }

    public int was(int tick, int what) {
        if (!within(tick, 0, engine.tick)) {
            return UNKNOWN;
        }
        if (!within(what, 0, PARTS - 1)) {
            return OUTSIDE;
        }
        return engine.part(tick, what);
    }

    public int mark(int m) {
        return marks.has(m) ? marks.first(m) : UNKNOWN;
    }

    // ---- 3 channels

    public int channel(int source, int rate, int delay, int low, int high) {
        if (!room.isOff()) {
            return STATE;
        }
        if (!within(source, SPEED, SMOKE) || !within(rate, 1, 20) || !within(delay, 0, 20)) {
            return OUTSIDE;
        }
        if (!within(low, -GREATEST_RANGE, GREATEST_RANGE) || !within(high, low, GREATEST_RANGE)) {
            return OUTSIDE;
        }
        if (channels.count >= MAX_CHANNELS) {
            return FULL;
        }
        channels.add(new Channel(channels.count, source, rate, delay, low, high));
        return channels.count - 1;
    }

    public int limit(int c, int v) {
        Channel channel = channels.find(c);
        if (channel == null) {
            return UNKNOWN;
        }
        if (!within(v, -30000, 30000)) {
            return OUTSIDE;
        }
        channel.limited = true;
        channel.limit = v;
        return 1;
    }

    public int lose(int c, int from, int to) {
        if (channels.find(c) == null) {
            return UNKNOWN;
        }
        if (!within(from, 0, MAX_TICK) || !within(to, from, MAX_TICK)) {
            return OUTSIDE;
        }
        if (channels.losses.count >= MAX_TOLD) {
            return FULL;
        }
        channels.losses.add(c, from, to, 0);
        return channels.losses.count;
    }

    public int correct(int c, int from, int g, int h) {
        Channel channel = channels.find(c);
        if (channel == null) {
            return UNKNOWN;
        }
        if (!within(from, 0, MAX_TICK) || !within(g, 1, 2000) || !within(h, -1000, 1000)) {
            return OUTSIDE;
        }
        if (channels.corrections.count >= MAX_TOLD) {
            return FULL;
        }
        reports.keepAhead(channel);
        channels.corrections.add(c, from, g, h);
        reports.nameOthers(channel);
        return reports.otherCount;
    }

    public int other(int i) {
        return within(i, 0, reports.otherCount - 1) ? reports.otherAt(i) : UNKNOWN;
    }

    public long reading(int c, int tick) {
        Channel channel = channels.find(c);
        if (channel == null || !within(tick, 0, engine.tick) || !channel.readsAt(tick)) {
            return LOST;
        }
        return channels.value(channel, tick);
    }

    public int state(int c, int tick) {
        Channel channel = channels.find(c);
        if (channel == null || !within(tick, 0, engine.tick) || !channel.readsAt(tick)) {
            return UNKNOWN;
        }
        if (channels.isLost(channel, tick)) {
            return 2;
        }
        return channels.isFull(channel, tick) ? 1 : 0;
    }

    public long report(int span, int c, int what) {
        Channel channel = channels.find(c);
        if (!marks.has(span) || channel == null || !within(what, 0, NUMBERS - 1)) {
            return LOST;
        }
        reports.reckon(channel, span);
        return reports.number(what);
    }

    public int valid(int c) {
        Channel channel = channels.find(c);
        if (channel == null) {
            return UNKNOWN;
        }
        rule.reckon(channel);
        return rule.verdict();
    }

    public long law(int c, int what) {
        Channel channel = channels.find(c);
        if (channel == null) {
            return LOST;
        }
        rule.reckon(channel);
        switch (what) {
            case 0: return rule.n;
            case 1: return rule.a();
            case 2: return rule.b();
            case 3: return rule.off;
            case 4: return rule.farthest;
            default: return LOST;
        }
    }

    // ---- 4 sheets, parts

    public int sheet(int k, int lane, int n) {
        fault = NO_FAULT;
        Sheet sheet = findSheet(k);
        if (sheet == null) {
            return UNKNOWN;
        }
        if (!within(lane, 0, LANES - 1) || n > MAX_CELLS) {
            return OUTSIDE;
        }
        if (n < 0) {
            return faulted(SIZE);
        }
        sheet.renew(lane, n);
        return 1;
    }

    public int drop(int k) {
        Sheet sheet = findSheet(k);
        if (sheet == null) {
            return UNKNOWN;
        }
        int had = sheet.there ? 1 : 0;
        sheet.there = false;
        return had;
    }

    public int put(int k, int i, int v) {
        fault = NO_FAULT;
        Sheet sheet = findSheet(k);
        if (sheet == null) {
            return UNKNOWN;
        }
        int come = sheet.there ? sheet.faultFrom(i, 1) : NULL;
        if (come != NO_FAULT) {
            return faulted(come);
        }
        sheet.write(i, v);
        return 1;
    }

    public long at(int k, int i, int lane) {
        fault = NO_FAULT;
        Sheet sheet = findSheet(k);
        if (sheet == null || !within(lane, 0, LANES - 1)) {
            return LOST;
        }
        int come = sheet.faultAs(lane);
        if (come == NO_FAULT) {
            come = sheet.faultFrom(i, 1);
        }
        if (come != NO_FAULT) {
            fault = come;
            return LOST;
        }
        return sheet.cell(i);
    }

    public int tell(int s) {
        if (!program.has(s)) {
            return UNKNOWN;
        }
        return bodies.telling(program.cell(s, KIND), program.cell(s, A), program.cell(s, C));
    }

    public int draw(int s) {
        if (!program.has(s)) {
            return UNKNOWN;
        }
        return bodies.drawing(program.cell(s, KIND));
    }

    public int as(int s, int kind) {
        fault = NO_FAULT;
        if (!program.has(s)) {
            return UNKNOWN;
        }
        if (!within(kind, HOLD, MARK)) {
            return OUTSIDE;
        }
        return Bodies.isA(program.cell(s, KIND), kind) ? 1 : faulted(CAST);
    }

    public int trace() {
        return bodies.trace;
    }

    public int fault() {
        return fault;
    }

    private int faulted(int come) {
        fault = come;
        return -10 - come;
    }

    private Sheet findSheet(int k) {
        return within(k, 0, SHEETS - 1) ? sheets[k] : null;
    }

    private static boolean within(int v, int low, int high) {
        return v >= low && v <= high;
    }

    /** THE MAP and THE ENGINE; every TICK's numbers are kept, since channels and reports look back. */
    private static final class Engine {
        private final int[] map = new int[MAP_SIZE];
        private final int[] past = new int[(MAX_TICK + 1) * PARTS];
        int lag = 4;
        int tick = 0;

        Engine() {
            past[HEAT] = 20;
        }

        int mapped(int k) {
            return within(k, 0, MAP_SIZE - 1) ? map[k] : 0;
        }

        void remap(int k, int v) {
            if (within(k, 0, MAP_SIZE - 1)) {
                map[k] = v;
            }
        }

        int torqueAt(int speed, int pedal) {
            int i = Math.min(speed / 2000, 3);
            int j = Math.min(pedal / 250, 3);
            int k = 5 * i + j;
            long u = speed - 2000 * i;
            long w = pedal - 250 * j;
            long sum = mapped(k) * (2000 - u) * (250 - w) + mapped(k + 5) * u * (250 - w)
                + mapped(k + 1) * (2000 - u) * w + mapped(k + 6) * u * w;
            return (int) (sum / 500000);
        }

        int part(int when, int what) {
            if (!within(when, 0, MAX_TICK) || !within(what, 0, PARTS - 1)) {
                return 0;
            }
            return past[when * PARTS + what];
        }

        int latest(int what) {
            return part(tick, what);
        }

        /** One TICK more, if there is room for it. */
        void advance(int wanted, int pedal) {
            if (!within(tick, 0, MAX_TICK - 1)) {
                return;
            }
            int speed = latest(SPEED) + change(latest(SPEED), wanted);
            int torque = torqueAt(speed, pedal);
            int fuel = Math.max(0, speed * (torque + 50) / 1000);
            int heat = latest(HEAT) + (fuel - 2 * (latest(HEAT) - 20)) / 16;
            int rise = torque - latest(TORQUE);
            int smoke = rise > 0 ? 3 * rise : latest(SMOKE) / 2;
            tick++;
            int row = tick * PARTS;
            past[row + SPEED] = speed;
            past[row + TORQUE] = torque;
            past[row + FUEL] = fuel;
            past[row + HEAT] = heat;
            past[row + SMOKE] = smoke;
            past[row + WANTED] = wanted;
            past[row + PEDAL] = pedal;
        }

        private int change(int speed, int wanted) {
            int more = lag > 0 ? (wanted - speed) / lag : 0;
            return more != 0 ? more : Integer.compare(wanted, speed);
        }
    }

    /** The row of STEPS, four cells each. */
    private static final class Program {
        private final int[] cells = new int[MAX_STEPS * STEP_CELLS];
        int count = 0;

        Program() {
        }

        /** Whether a STEP is as told, if it gets this number. */
        static boolean fits(int number, int kind, int a, int b, int c) {
            switch (kind) {
                case HOLD: return within(a, 1, 500);
                case RAMP: return within(a, 1, 500) && within(b, 0, GREATEST_SPEED) && within(c, 0, GREATEST_PEDAL);
                case WAIT: return within(c, 1, 500);
                case LOOP: return within(a, 0, number) && within(b, 1, 100);
                default: return kind == MARK;
            }
        }

        boolean has(int s) {
            return within(s, 0, count - 1);
        }

        int cell(int s, int what) {
            if (!within(s, 0, MAX_STEPS - 1) || !within(what, 0, STEP_CELLS - 1)) {
                return 0;
            }
            return cells[s * STEP_CELLS + what];
        }

        void add(int kind, int a, int b, int c) {
            if (!within(count, 0, MAX_STEPS - 1)) {
                return;
            }
            int row = count * STEP_CELLS;
            cells[row + KIND] = kind;
            cells[row + A] = a;
            cells[row + B] = b;
            cells[row + C] = c;
            count++;
        }

        boolean fitAll(Sheet from, int i, int n) {
            for (int k = 0; k < n; k++) {
                int at = i + STEP_CELLS * k;
                if (!fits(count + k, from.cell(at + KIND), from.cell(at + A), from.cell(at + B), from.cell(at + C))) {
                    return false;
                }
            }
            return true;
        }

        void addAll(Sheet from, int i, int n) {
            for (int k = 0; k < n; k++) {
                int at = i + STEP_CELLS * k;
                add(from.cell(at + KIND), from.cell(at + A), from.cell(at + B), from.cell(at + C));
            }
        }
    }

    /** The MARKS, and the SPANS that go from one to the next. */
    private static final class Marks {
        private final int[] ticks = new int[MAX_MARKS];
        int count = 0;

        Marks() {
        }

        void add(int tick) {
            if (within(count, 0, MAX_MARKS - 1)) {
                ticks[count] = tick;
                count++;
            }
        }

        boolean has(int m) {
            return within(m, 0, count - 1);
        }

        int first(int span) {
            return within(span, 0, MAX_MARKS - 1) ? ticks[span] : 0;
        }

        int last(int span, int now) {
            return has(span + 1) ? first(span + 1) - 1 : now;
        }
    }

    /** THE ROOM: goes through the program tick by tick, and through the last acts. */
    private static final class Room {
        private final Engine engine;
        private final Program program;
        private final Channels channels;
        private final Marks marks;
        private final int[] ledBack = new int[MAX_STEPS];
        int state = OFF;
        int at = 0;
        int kind = NONE;
        int acts = 0;
        private int spent = 0;
        private int wanted = 0;
        private int pedal = 0;
        private int wantedAtFirst = 0;
        private int pedalAtFirst = 0;

        Room(Engine engine, Program program, Channels channels, Marks marks) {
            this.engine = engine;
            this.program = program;
            this.channels = channels;
            this.marks = marks;
        }

        boolean isOff() {
            return state == OFF;
        }

        boolean isGoing() {
            return state == RUNNING || state == STOPPING;
        }

        void rest() {
            state = OFF;
            kind = NONE;
            acts = 0;
            comeTo(0);
        }

        void begin() {
            state = RUNNING;
            comeTo(0);
            for (int s = 0; s < MAX_STEPS; s++) {
                ledBack[s] = 0;
            }
        }

        void halt(int by) {
            kind = by;
            state = STOPPING;
        }

        void oneTick() {
            wanted = engine.latest(WANTED);
            pedal = engine.latest(PEDAL);
            if (state == RUNNING) {
                goOn();
            }
            // goOn may have stopped it: then this TICK is a last act already, and limits are over
            if (state == STOPPING) {
                engine.advance(800, 0);
                acts++;
                state = acts < LAST_ACTS ? STOPPING : STOPPED;
            } else {
                engine.advance(wanted, pedal);
                if (channels.isOneAbove(engine.tick)) {
                    halt(BY_LIMIT);
                }
            }
        }

        /** Goes from STEP to STEP, till one has the TICK or it stops. */
        private void goOn() {
            for (int passed = 0; passed < MAX_PASSED; passed++) {
                if (at >= program.count) {
                    halt(BY_END);
                    return;
                }
                switch (program.cell(at, KIND)) {
                    case HOLD:
                        spend();
                        return;
                    case RAMP:
                        ramp();
                        spend();
                        return;
                    case WAIT:
                        if (!isWaitOver()) {
                            return;
                        }
                        break;
                    case LOOP:
                        loop();
                        break;
                    default:
                        marks.add(engine.tick + 1);
                        comeTo(at + 1);
                        break;
                }
            }
            // the end is no STEP more
            halt(at < program.count ? BY_LENGTH : BY_END);
        }

        private void comeTo(int s) {
            at = s;
            spent = 0;
        }

        private void spend() {
            spent++;
            if (spent >= program.cell(at, A)) {
                comeTo(at + 1);
            }
        }

        private void ramp() {
            if (spent == 0) {
                wantedAtFirst = wanted;
                pedalAtFirst = pedal;
            }
            int length = program.cell(at, A);
            if (length > 0) {
                int k = spent + 1;
                wanted = wantedAtFirst + k * (program.cell(at, B) - wantedAtFirst) / length;
                pedal = pedalAtFirst + k * (program.cell(at, C) - pedalAtFirst) / length;
            }
        }

        /** True: the next STEP is come to in this TICK; else the TICK is the WAIT's, or it stopped. */
        private boolean isWaitOver() {
            Channel channel = channels.find(program.cell(at, A));
            if (channel == null) {
                halt(BY_WAIT);
                return false;
            }
            long value = channels.value(channel, channel.latestAt(engine.tick));
            if (value != LOST && value >= program.cell(at, B)) {
                comeTo(at + 1);
                return true;
            }
            if (spent >= program.cell(at, C)) {
                halt(BY_WAIT);
            } else {
                spent++;
            }
            return false;
        }

        private void loop() {
            if (!within(at, 0, MAX_STEPS - 1)) {
                return;
            }
            if (ledBack[at] < program.cell(at, B)) {
                ledBack[at]++;
                comeTo(program.cell(at, A));
            } else {
                ledBack[at] = 0;
                comeTo(at + 1);
            }
        }
    }

    /** What a CHANNEL was made with, and its LIMIT. */
    private static final class Channel {
        final int number;
        final int source;
        final int rate;
        final int delay;
        final int low;
        final int high;
        boolean limited = false;
        int limit = 0;

        Channel(int number, int source, int rate, int delay, int low, int high) {
            this.number = number;
            this.source = source;
            this.rate = rate;
            this.delay = delay;
            this.low = low;
            this.high = high;
        }

        boolean readsAt(int tick) {
            return rate > 0 && tick % rate == 0;
        }

        int latestAt(int tick) {
            return rate > 0 ? tick / rate * rate : tick;
        }

        int firstFrom(int tick) {
            return latestAt(tick + rate - 1);
        }
    }

    /** Things told of CHANNELS from a TICK on: losses, or corrections. */
    private static final class Tellings {
        private final int[] channels = new int[MAX_TOLD];
        private final int[] froms = new int[MAX_TOLD];
        private final int[] firsts = new int[MAX_TOLD];
        private final int[] seconds = new int[MAX_TOLD];
        int count = 0;

        Tellings() {
        }

        void add(int channel, int from, int first, int second) {
            if (within(count, 0, MAX_TOLD - 1)) {
                channels[count] = channel;
                froms[count] = from;
                firsts[count] = first;
                seconds[count] = second;
                count++;
            }
        }

        /** As losses: whether one of them has the TICK. */
        boolean covers(int channel, int tick) {
            for (int i = 0; i < count && i < MAX_TOLD; i++) {
                if (channels[i] == channel && froms[i] <= tick && tick <= firsts[i]) {
                    return true;
                }
            }
            return false;
        }

        /** As corrections: what a value is by the latest one told whose TICK is not behind. */
        int apply(int channel, int tick, int value) {
            for (int i = Math.min(count, MAX_TOLD) - 1; i >= 0; i--) {
                if (channels[i] == channel && froms[i] <= tick) {
                    return value * firsts[i] / 1000 + seconds[i];
                }
            }
            return value;
        }
    }

    /** The CHANNELS and what they read; a TICK here is one of which the CHANNEL has a reading. */
    private static final class Channels {
        private final Engine engine;
        private final Channel[] rows = new Channel[MAX_CHANNELS];
        final Tellings losses = new Tellings();
        final Tellings corrections = new Tellings();
        int count = 0;

        Channels(Engine engine) {
            this.engine = engine;
        }

        void add(Channel channel) {
            if (within(count, 0, MAX_CHANNELS - 1)) {
                rows[count] = channel;
                count++;
            }
        }

        Channel find(int c) {
            return within(c, 0, Math.min(count, MAX_CHANNELS) - 1) ? rows[c] : null;
        }

        boolean isLost(Channel channel, int tick) {
            return tick < channel.delay || losses.covers(channel.number, tick);
        }

        boolean isFull(Channel channel, int tick) {
            return !within(engine.part(tick - channel.delay, channel.source), channel.low, channel.high);
        }

        /** The reading as it is corrected, or LOST. */
        long value(Channel channel, int tick) {
            if (isLost(channel, tick)) {
                return LOST;
            }
            int plain = engine.part(tick - channel.delay, channel.source);
            int cut = Math.max(channel.low, Math.min(channel.high, plain));
            return corrections.apply(channel.number, tick, cut);
        }

        boolean isOneAbove(int tick) {
            for (int c = 0; c < count && c < MAX_CHANNELS; c++) {
                Channel channel = rows[c];
                if (channel != null && channel.limited && channel.readsAt(tick)) {
                    long value = value(channel, tick);
                    if (value != LOST && value > channel.limit) {
                        return true;
                    }
                }
            }
            return false;
        }
    }

    /** The numbers of SPANS, and those that the latest CORRECTION made other. */
    private static final class Reports {
        private final Engine engine;
        private final Channels channels;
        private final Marks marks;
        private final long[] row = new long[NUMBERS];
        private final long[] ahead = new long[MAX_MARKS * NUMBERS];
        private final int[] others = new int[MAX_MARKS * NUMBERS];
        int otherCount = 0;

        Reports(Engine engine, Channels channels, Marks marks) {
            this.engine = engine;
            this.channels = channels;
            this.marks = marks;
        }

        long number(int what) {
            return within(what, 0, NUMBERS - 1) ? row[what] : 0;
        }

        int otherAt(int i) {
            return within(i, 0, MAX_MARKS * NUMBERS - 1) ? others[i] : 0;
        }

        /** Reckons the row of numbers of a SPAN and a CHANNEL. */
        void reckon(Channel channel, int span) {
            for (int what = 0; what < NUMBERS; what++) {
                row[what] = 0;
            }
            int last = marks.last(span, engine.tick);
            int tickAhead = 0;
            long valueAhead = 0;
            for (int tick = channel.firstFrom(marks.first(span)); tick <= last; tick += Math.max(1, channel.rate)) {
                long value = channels.value(channel, tick);
                if (value == LOST) {
                    row[LOST_ONES]++;
                } else {
                    if (row[COUNT] > 0) {
                        join(channel.rate, tick - tickAhead, valueAhead + value);
                    }
                    count(value, channels.isFull(channel, tick));
                    tickAhead = tick;
                    valueAhead = value;
                }
            }
        }

        private void join(int rate, int apart, long both) {
            if (apart == rate) {
                row[AREA] += both * rate;
            } else {
                row[GAPS]++;
            }
        }

        private void count(long value, boolean full) {
            boolean first = row[COUNT] == 0;
            row[COUNT]++;
            row[FULL_ONES] += full ? 1 : 0;
            row[LEAST] = first ? value : Math.min(row[LEAST], value);
            row[GREATEST] = first ? value : Math.max(row[GREATEST], value);
            row[SUM] += value;
        }

        /** Keeps the numbers that a CORRECTION of the CHANNEL could make other. */
        void keepAhead(Channel channel) {
            for (int span = 0; span < marks.count && span < MAX_MARKS; span++) {
                reckon(channel, span);
                for (int what = 0; what < NUMBERS; what++) {
                    ahead[span * NUMBERS + what] = row[what];
                }
            }
        }

        void nameOthers(Channel channel) {
            otherCount = 0;
            for (int span = 0; span < marks.count && span < MAX_MARKS; span++) {
                reckon(channel, span);
                for (int what = 0; what < NUMBERS; what++) {
                    if (row[what] != ahead[span * NUMBERS + what]) {
                        name(80 * span + 10 * channel.number + what);
                    }
                }
            }
        }

        private void name(int number) {
            if (within(otherCount, 0, MAX_MARKS * NUMBERS - 1)) {
                others[otherCount] = number;
                otherCount++;
            }
        }
    }

    /** THE LAW's sums over the readings of a CHANNEL. */
    private static final class Law {
        private final Engine engine;
        private final Channels channels;
        long n = 0;
        long off = 0;
        long farthest = 0;
        private long sumX = 0;
        private long sumY = 0;
        private long sumXX = 0;
        private long sumXY = 0;

        Law(Engine engine, Channels channels) {
            this.engine = engine;
            this.channels = channels;
        }

        void reckon(Channel channel) {
            n = 0;
            off = 0;
            farthest = 0;
            sumX = 0;
            sumY = 0;
            sumXX = 0;
            sumXY = 0;
            for (int tick = 0; tick <= engine.tick; tick += Math.max(1, channel.rate)) {
                long y = channels.value(channel, tick);
                if (y != LOST) {
                    count(engine.part(tick - channel.delay, WANTED), y);
                }
            }
        }

        private void count(long x, long y) {
            n++;
            off += y - x;
            farthest = Math.max(farthest, Math.abs(y - x));
            sumX += x;
            sumY += y;
            sumXX += x * x;
            sumXY += x * y;
        }

        long a() {
            return n * sumXY - sumX * sumY;
        }

        long b() {
            return n * sumXX - sumX * sumX;
        }

        int verdict() {
            if (b() <= 0 || 950 * b() > 1000 * a() || 1000 * a() > 1050 * b()) {
                return 1;
            }
            if (Math.abs(off) > 50 * n) {
                return 2;
            }
            return farthest > 400 ? 3 : 0;
        }
    }

    /** What a SHEET has: its cells are used again for each new row. */
    private static final class Sheet {
        private final int[] cells = new int[MAX_CELLS];
        private int length = 0;
        private int lane = 0;
        boolean there = false;

        Sheet() {
        }

        void renew(int newLane, int newLength) {
            for (int i = 0; i < MAX_CELLS; i++) {
                cells[i] = 0;
            }
            there = true;
            lane = newLane;
            length = newLength;
        }

        /** CAST or NULL, if it is taken as a row of a LANE. */
        int faultAs(int asLane) {
            if (!there) {
                return NULL;
            }
            return lane == asLane ? NO_FAULT : CAST;
        }

        /** INDEX, if there are not so many cells from i on. */
        int faultFrom(int i, long many) {
            return i >= 0 && many >= 0 && i + many <= length ? NO_FAULT : INDEX;
        }

        int cell(int i) {
            return within(i, 0, MAX_CELLS - 1) ? cells[i] : 0;
        }

        void write(int i, int v) {
            if (within(i, 0, MAX_CELLS - 1)) {
                cells[i] = lane == BYTES ? (byte) v : lane == SHORTS ? (short) v : v;
            }
        }
    }

    /** The bodies of STEPS; each leaves its number in TRACE as it begins. */
    private static final class Bodies {
        int trace = 0;

        Bodies() {
        }

        static boolean isA(int kind, int asKind) {
            if (asKind == HOLD) {
                return kind == HOLD || kind == RAMP || kind == WAIT;
            }
            return kind == asKind || kind == MARK && asKind == LOOP;
        }

        int telling(int kind, int a, int c) {
            switch (kind) {
                case HOLD: return holds(a);
                case RAMP: return ramps(a);
                case WAIT: return waits(a, c);
                default: return loops();
            }
        }

        int drawing(int kind) {
            if (kind == RAMP) {
                leave(6);
                return 3;
            }
            leave(5);
            return 100 + kind;
        }

        private void leave(int number) {
            trace = 31 * trace + number;
        }

        private int holds(int a) {
            leave(1);
            return a;
        }

        private int ramps(int a) {
            leave(2);
            return 10 * holds(a);
        }

        private int waits(int a, int c) {
            leave(3);
            return holds(a) + c;
        }

        private int loops() {
            leave(4);
            return 7;
        }
    }
}
