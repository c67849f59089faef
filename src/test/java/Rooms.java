import java.util.List;
import java.util.function.Supplier;

/** Objects that have something of everything, one for each state of THE ROOM; made alike each time. */
final class Rooms {
    private static final int RISE = 6;

    private Rooms() {
    }

    static List<Supplier<EngineCell>> all() {
        return List.of(Rooms::off, Rooms::running, Rooms::stopping, Rooms::stopped);
    }

    static List<Supplier<EngineCell>> started() {
        return List.of(Rooms::running, Rooms::stopping, Rooms::stopped);
    }

    /** OFF, behind a run: 7 STEPS, 2 CHANNELS, a LIMIT, a loss, a CORRECTION that made seven numbers other. */
    static EngineCell off() {
        EngineCell x = new EngineCell();
        x.map(0, -60);
        x.map(4, 400);
        x.map(6, 250);
        x.map(24, 900);
        x.lag(2);
        x.channel(0, 1, 0, 0, 6000);
        x.channel(3, 3, 2, -50, 60);
        x.limit(0, 2500);
        x.step(4, 1, 2, 3);
        x.step(1, RISE, 2000, 500);
        x.step(0, 3, 7, 8);
        x.step(3, 0, 2, 9);
        x.step(2, 1, 40, 20);
        x.step(1, 10, 5000, 1000);
        x.step(0, 5, 0, 0);
        x.lose(0, 4, 5);
        x.start();
        x.tick(12);
        x.correct(0, 3, 900, 10);
        x.stop();
        x.tick(10);
        x.reset();
        sheets(x);
        x.tell(1);
        x.draw(5);
        x.as(0, 0);
        return x;
    }

    /** 0: bytes, a HOLD and what is no STEP; 1: two shorts; 2: forty ints, ten HOLDS; 3: nothing. */
    private static void sheets(EngineCell x) {
        x.sheet(0, 0, 8);
        x.put(0, 1, 5);
        x.put(0, 4, 9);
        x.sheet(1, 1, 2);
        x.put(1, 1, -7);
        x.sheet(2, 2, 40);
        for (int i = 0; i < 10; i++) {
            x.put(2, 4 * i + 1, 100 + i);
        }
    }

    /** In the middle of the RAMP, the first time round. */
    static EngineCell running() {
        EngineCell x = off();
        x.start();
        x.tick(RISE - 2);
        return x;
    }

    /** The MARKS at TICKS 1, 10; three LAST ACTS were done. */
    static EngineCell stopping() {
        EngineCell x = off();
        x.start();
        x.tick(14);
        x.stop();
        x.tick(3);
        return x;
    }

    static EngineCell stopped() {
        EngineCell x = stopping();
        x.tick(100);
        return x;
    }
}
