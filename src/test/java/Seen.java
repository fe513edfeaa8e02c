import java.util.ArrayList;
import java.util.List;

/**
 * All that an object answers, so that two objects can be held against each other: first what does
 * nothing, then what its ACTS and BOXES bring back (the object is used up by that).
 */
final class Seen {
    private final RestDays x;
    private final List<String> names = new ArrayList<>();
    private final List<Long> answers = new ArrayList<>();

    private Seen(RestDays x) {
        this.x = x;
    }

    /** What lies there is left out, if it is to be told apart. */
    static void alike(String what, RestDays got, RestDays due, boolean withWhatLies) {
        Seen a = new Seen(got);
        Seen b = new Seen(due);
        a.fault();
        b.fault();
        a.look(withWhatLies);
        b.look(withWhatLies);
        hold(what, a, b);
    }

    static void alikeButForFault(String what, RestDays got, RestDays due) {
        Seen a = new Seen(got);
        Seen b = new Seen(due);
        a.look(true);
        b.look(true);
        hold(what, a, b);
    }

    private static void hold(String what, Seen a, Seen b) {
        Checks.same(what + ": as many answers", a.answers.size(), b.answers.size());
        int n = Math.min(a.answers.size(), b.answers.size());
        for (int i = 0; i < n; i++) {
            if (!a.answers.get(i).equals(b.answers.get(i))) {
                Checks.same(what + ": " + a.names.get(i), a.answers.get(i), b.answers.get(i));
                return;
            }
        }
        Checks.same(what + ": all alike", n, n);
    }

    private void note(String name, long answer) {
        names.add(name);
        answers.add(answer);
    }

    private void fault() {
        note("fault(0)", x.fault(0));
        note("fault(1)", x.fault(1));
    }

    private void look(boolean withWhatLies) {
        for (int i = 0; i < 17; i++) {
            note("about(" + i + ")", x.about(i));
        }
        if (withWhatLies) {
            int lying = x.about(17);
            note("about(17)", lying);
            for (int i = 0; i < lying; i++) {
                note("lies(" + i + ")", x.lies(i));
            }
        }
        inEarnest("now");
        looks();
        for (int i = 1; x.undo(); i++) {
            inEarnest("undone " + i);
        }
        for (int i = 1; x.redo(); i++) {
            again(i);
        }
        for (int box = 0; box < 3; box++) {
            note("back(" + box + ")", x.back(box));
            inEarnest("back " + box);
        }
    }

    private void again(int i) {
        note("redone " + i + ": HOURS", x.about(9));
        note("redone " + i + ": thing(0)", x.thing(0));
        note("redone " + i + ": feast(0)", x.feast(0));
        note("redone " + i + ": DAY", x.about(7));
    }

    private void inEarnest(String when) {
        note(when + ": DAY", x.about(7));
        note(when + ": HOUR", x.about(8));
        note(when + ": HOURS", x.about(9));
        for (int i = 0; i < x.about(0); i++) {
            note(when + ": thing(" + i + ")", x.thing(i));
        }
        for (int i = 0; i < x.about(1); i++) {
            note(when + ": feast(" + i + ")", x.feast(i));
        }
        note(when + ": broken()", x.broken());
        note(when + ": says(0)", x.says(0));
        note(when + ": says(1)", x.says(1));
        int crimes = x.about(10);
        note(when + ": CRIMES", crimes);
        for (int i = Math.max(0, crimes - 2); i < crimes; i++) {
            note(when + ": crime(" + i + ", 0)", x.crime(i, 0));
            note(when + ": crime(" + i + ", 1)", x.crime(i, 1));
        }
    }

    private void looks() {
        int time = x.about(14);
        for (int k : new int[] {-1, 0, time - 1, time}) {
            note("fit(" + k + ")", x.fit(k));
            note("rests(0, " + k + ")", x.rests(0, k));
            note("ask(2, 1, " + k + ")", x.ask(2, 1, k));
        }
    }
}
