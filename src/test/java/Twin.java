import java.util.ArrayList;
import java.util.List;

/**
 * A state that objects are brought to again and again. An object that is refused a call in it must answer
 * as one that was never asked: look() asks for all that can be asked for, to the tape and the last MARK.
 */
final class Twin {
    interface State {
        void bring(LicensedVoice x);
    }

    interface Call {
        long on(LicensedVoice x);
    }

    interface Deed {
        boolean on(LicensedVoice x);
    }

    private final Check check;
    private final String name;
    private final State state;
    private final List<Long> unasked;

    Twin(Check check, String name, State state) {
        this.check = check;
        this.name = name;
        this.state = state;
        unasked = look(brought());
    }

    private LicensedVoice brought() {
        LicensedVoice x = new LicensedVoice();
        state.bring(x);
        return x;
    }

    /** NONE, the STATUS, and nothing is changed. */
    void refused(String call, int status, Call asked) {
        LicensedVoice x = brought();
        check.refused(name + ": " + call, x, asked.on(x), status);
        same(call, x);
    }

    /** The same for a call that answers false. */
    void denied(String call, int status, Deed asked) {
        LicensedVoice x = brought();
        check.denied(name + ": " + call, x, asked.on(x), status);
        same(call, x);
    }

    /** NONE of a call that has no STATUS: that of the call ahead stays. */
    void silent(String call, Call asked) {
        LicensedVoice x = brought();
        x.rule(17);
        check.refused(name + ": " + call, x, asked.on(x), 5);
        same(call, x);
    }

    /** A call that is taken, but only tells something. */
    void told(String call, long want, Call asked) {
        LicensedVoice x = brought();
        check.due(name + ": " + call, asked.on(x), want);
        check.due(name + ": " + call + " STATUS", x.status(), 0);
        same(call, x);
    }

    /** A FAULT: all but the tape, which the state must not use, and what fault() tells stays. */
    void faulty(String text, boolean isTown, int kind, int place) {
        LicensedVoice x = brought();
        int n = Check.tape(x, text);
        check.refused(name + ": " + text, x, isTown ? x.town(n) : x.dials(n), 10);
        check.due(name + ": fault(0) of " + text, x.fault(0), kind);
        check.due(name + ": fault(1) of " + text, x.fault(1), place);
        check.refused(name + ": the tape is empty behind " + text, x, x.town(1), 5);
        List<Long> seen = look(x);
        List<Long> due = new ArrayList<>(unasked);
        due.set(0, (long) kind);
        due.set(1, (long) place);
        compare(text, seen, due);
    }

    private void same(String call, LicensedVoice x) {
        compare(call, look(x), unasked);
    }

    private void compare(String call, List<Long> seen, List<Long> due) {
        check.due(name + ": answers told behind " + call, seen.size(), due.size());
        for (int i = 0; i < seen.size() && i < due.size(); i++) {
            check.due(name + ": look " + i + " behind " + call, seen.get(i), due.get(i));
        }
    }

    private static List<Long> look(LicensedVoice x) {
        List<Long> seen = new ArrayList<>();
        tell(seen, x.fault(0), x.fault(1), x.top(), x.bottom());
        for (int tray = 0; tray < 4; tray++) {
            for (int place = 0; place < 6; place++) {
                tell(seen, x.read(tray, place), x.status());
            }
            tell(seen, x.read(tray, 43), x.status(), x.read(tray, 59), x.status());
        }
        lookAtTown(x, seen);
        lookAtLived(x, seen);
        tell(seen, x.live(77), x.status());
        lookAtLived(x, seen);
        lookAtSums(x, seen);
        for (int i = 0; i < 4; i++) {
            tell(seen, x.back(), x.status(), x.live(5));
            lookAtSums(x, seen);
        }
        int n = x.feed(0x20202020, 0x20202020, 0x20202020, 0x20202020, 0x20202020);
        tell(seen, n, x.town(n < 0 ? 900 : n), x.status(), x.fault(0), x.fault(1));
        lookAtSums(x, seen);
        return seen;
    }

    private static void lookAtLived(LicensedVoice x, List<Long> seen) {
        for (int what = 0; what < 5; what++) {
            tell(seen, x.lived(what));
        }
    }

    private static void lookAtSums(LicensedVoice x, List<Long> seen) {
        for (int what = 0; what < 12; what++) {
            tell(seen, x.many(what));
        }
    }

    /** All that is told of the TOWN itself. */
    static List<Long> town(LicensedVoice x) {
        List<Long> seen = new ArrayList<>();
        lookAtTown(x, seen);
        return seen;
    }

    private static void lookAtTown(LicensedVoice x, List<Long> seen) {
        lookAtSums(x, seen);
        for (int voice = 0; voice < x.many(1); voice++) {
            for (int what = 0; what < 5; what++) {
                tell(seen, x.voice(voice, what));
            }
            for (int k = 0; k < x.voice(voice, 2); k++) {
                tell(seen, x.row(voice, k));
            }
        }
        for (int person = 0; person < x.many(2); person++) {
            for (int what = 0; what < 4; what++) {
                tell(seen, x.person(person, what));
            }
            for (int subject = 0; subject < x.many(0); subject++) {
                tell(seen, x.like(person, subject));
            }
        }
        for (int set = 0; set < x.many(3); set++) {
            tell(seen, x.set(set, 0), x.set(set, 1), x.set(set, 2));
        }
    }

    private static void tell(List<Long> seen, long... answers) {
        for (long answer : answers) {
            seen.add(answer);
        }
    }
}
