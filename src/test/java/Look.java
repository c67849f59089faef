import java.util.ArrayList;
import java.util.List;

/** All that an object shows; then what it goes on to do, since some of what it holds is seen there alone. */
final class Look {
    // an object is used for 512 calls: those that made it, and these
    private static final int MAX_CALLS = 400;

    private final EngineCell x;
    private final List<String> seen = new ArrayList<>();

    private Look(EngineCell x) {
        this.x = x;
    }

    /** The first line is what fault() tells: looking at SHEETS changes it. */
    static List<String> all(EngineCell x) {
        Look look = new Look(x);
        look.see("fault()", x.fault());
        look.see("trace()", x.trace());
        look.engine();
        look.program();
        look.channels();
        look.sheets();
        look.going();
        if (look.seen.size() > MAX_CALLS) {
            throw new IllegalStateException("looked at too much: " + look.seen.size());
        }
        return look.seen;
    }

    private void see(String what, long answer) {
        seen.add(what + " = " + answer);
    }

    private void engine() {
        for (int what = 0; what < 10; what++) see("told(" + what + ")", x.told(what));
        for (int k = 0; k < 25; k++) see("number " + k, x.torque(2000 * (k / 5), 250 * (k % 5)));
        int now = x.told(1);
        for (int what = 0; what < 7; what++) {
            see("was(0, " + what + ")", x.was(0, what));
            see("was(" + now + ", " + what + ")", x.was(now, what));
        }
        see("was one beyond", x.was(now + 1, 0));
    }

    private void program() {
        int steps = x.told(6);
        for (int s = 0; s <= steps; s++) {
            for (int what = 0; what < 4; what++) see("stepped(" + s + ", " + what + ")", x.stepped(s, what));
        }
        for (int m = 0; m <= x.told(5); m++) see("mark(" + m + ")", x.mark(m));
        for (int i = 0; i < 9; i++) see("other(" + i + ")", x.other(i));
    }

    private void channels() {
        int many = Math.min(2, x.told(7));
        for (int c = 0; c < many; c++) {
            readings(c);
            see("valid(" + c + ")", x.valid(c));
            for (int what = 0; what < 5; what++) see("law(" + c + ", " + what + ")", x.law(c, what));
            for (int span = 0; span < Math.min(2, x.told(5)); span++) {
                for (int what = 0; what < 8; what++) {
                    see("report(" + span + ", " + c + ", " + what + ")", x.report(span, c, what));
                }
            }
        }
        see("valid one beyond", x.valid(x.told(7)));
    }

    private void readings(int c) {
        int now = x.told(1);
        for (int tick = Math.max(0, now - 3); tick <= now; tick++) {
            see("reading(" + c + ", " + tick + ")", x.reading(c, tick));
            see("state(" + c + ", " + tick + ")", x.state(c, tick));
        }
    }

    private void sheets() {
        for (int k = 0; k < 4; k++) {
            for (int lane = 0; lane < 3; lane++) {
                int i = 0;
                for (long cell = x.at(k, i, lane); cell != EngineCell.LOST; cell = x.at(k, i, lane)) {
                    see("at(" + k + ", " + i + ", " + lane + ")", cell);
                    i += i < 9 ? 1 : 4;
                }
                see("fault() of at(" + k + ", " + i + ", " + lane + ")", x.fault());
            }
        }
    }

    private void going() {
        see("start()", x.start());
        for (int n = 1; n < 8; n++) {
            see("tick(" + n + ")", x.tick(n));
            for (int what = 0; what < 6; what++) see("told(" + what + ")", x.told(what));
            int now = x.told(1);
            for (int what = 0; what < 7; what++) see("was(" + now + ", " + what + ")", x.was(now, what));
        }
        see("tick(1000)", x.tick(1000));
        for (int what = 0; what < 6; what++) see("told(" + what + ")", x.told(what));
        for (int c = 0; c < Math.min(2, x.told(7)); c++) readings(c);
        see("lose(0, 3000, 3000)", x.lose(0, 3000, 3000));
        see("reset()", x.reset());
    }
}
