/** Counts the answers that are not as due, and tells them. */
final class Check {
    private int asked = 0;
    private int wrong = 0;

    void due(String what, long got, long want) {
        asked++;
        if (got != want) {
            wrong++;
            System.out.println(what + " answered " + got + ", due is " + want);
        }
    }

    /** The numbers of a TICK, in the order of was(). */
    void dueTick(EngineCell x, int tick, int... wants) {
        for (int what = 0; what < wants.length; what++) {
            due("was(" + tick + ", " + what + ")", x.was(tick, what), wants[what]);
        }
    }

    void dueTold(EngineCell x, int... wants) {
        for (int what = 0; what < wants.length; what++) {
            due("told(" + what + ")", x.told(what), wants[what]);
        }
    }

    /** The numbers of a SPAN and a CHANNEL, in the order of report(). */
    void dueReport(EngineCell x, int span, int c, long... wants) {
        for (int what = 0; what < wants.length; what++) {
            due("report(" + span + ", " + c + ", " + what + ")", x.report(span, c, what), wants[what]);
        }
    }

    void close(String name) {
        System.out.println(name + ": " + asked + " answers, " + wrong + " not as due");
        if (wrong != 0 || asked == 0) {
            System.exit(1);
        }
    }
}
