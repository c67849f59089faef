import java.util.List;
import java.util.function.Supplier;
import java.util.function.ToLongFunction;

/** Two objects are made alike; one gets a call that must change nothing, then all that both show is compared. */
final class Twins {
    private static final int AS_IT_WAS = -1;
    private final Check check;

    Twins(Check check) {
        this.check = check;
    }

    /** A call that names no FAULTS: fault(), too, stays as it was. */
    void unchanged(String call, Supplier<EngineCell> made, ToLongFunction<EngineCell> ask, long want) {
        compare(call, made, ask, want, AS_IT_WAS);
    }

    void unchanged(String call, List<Supplier<EngineCell>> rooms, ToLongFunction<EngineCell> ask, long want) {
        for (Supplier<EngineCell> made : rooms) compare(call, made, ask, want, AS_IT_WAS);
    }

    /** A call that names FAULTS: fault() tells this one behind it (0: none), all else stays. */
    void faulted(String call, Supplier<EngineCell> made, ToLongFunction<EngineCell> ask, long want, int fault) {
        compare(call, made, ask, want, fault);
    }

    void faulted(String call, List<Supplier<EngineCell>> rooms, ToLongFunction<EngineCell> ask, long want, int fault) {
        for (Supplier<EngineCell> made : rooms) compare(call, made, ask, want, fault);
    }

    private void compare(String call, Supplier<EngineCell> made, ToLongFunction<EngineCell> ask, long want, int fault) {
        EngineCell twin = made.get();
        EngineCell asked = made.get();
        String name = call + ", THE ROOM " + twin.told(0);
        asked.told(0);
        check.due(name, ask.applyAsLong(asked), want);
        List<String> due = Look.all(twin);
        List<String> got = Look.all(asked);
        if (fault != AS_IT_WAS) due.set(0, "fault() = " + fault);
        for (int i = 0; i < Math.max(due.size(), got.size()); i++) {
            String one = i < due.size() ? due.get(i) : "nothing more";
            String other = i < got.size() ? got.get(i) : "nothing more";
            check.due(name + " changed " + one + " to " + other, one.equals(other) ? 1 : 0, 1);
        }
    }
}
