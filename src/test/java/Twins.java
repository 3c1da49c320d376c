import java.util.ArrayList;
import java.util.List;

/**
 * Two objects with the same calls behind them, of which one has had a call more: everything that can be asked of an
 * object is asked of both, also by calls that change it, so what the one call has changed comes to light.
 */
final class Twins {
    private final List<String> calls = new ArrayList<>();
    private final List<Long> answers = new ArrayList<>();
    private final UsedUp x;

    private Twins(UsedUp x) {
        this.x = x;
    }

    static void same(Due due, String what, UsedUp x, UsedUp y) {
        due.is(what + ", then fault", x.fault(), y.fault());
        sameButFault(due, what, x, y);
    }

    static void sameButFault(Due due, String what, UsedUp x, UsedUp y) {
        Twins one = new Twins(x);
        Twins other = new Twins(y);
        one.askAll();
        other.askAll();
        due.is(what + ": as many answers", one.answers.size(), other.answers.size());
        for (int i = 0; i < other.answers.size(); i++) {
            due.is(what + ", then " + one.calls.get(i), one.answers.get(i), other.answers.get(i));
        }
    }

    private void told(String call, long answer) {
        calls.add(call);
        answers.add(answer);
    }

    private void askAll() {
        counts();
        places();
        asks();
        locks();
        worsts();
        budgets();
        tape();
        names();
        ordinaries();
    }

    private void counts() {
        for (int what = 0; what <= 5; what++) {
            told("count " + what, x.count(what));
        }
    }

    private void places() {
        for (int place = 0; place < 8; place++) {
            told("capped " + place, x.capped(place));
            told("need " + place, x.need(place));
            told("where " + place, x.where(place));
        }
    }

    private void asks() {
        for (int k = 0; k < 4; k++) {
            told("ask " + k, x.ask(k));
        }
        for (int sort = 0; sort < 2; sort++) {
            told("spends " + sort, x.spends(sort, 3, 2, 1, 4));
            told("spends much " + sort, x.spends(sort, 1000, 1000, 1000, 1000));
        }
    }

    private void locks() {
        for (int l = 0; l < 8; l++) {
            for (int m = 0; m < 8; m++) {
                told("ahead " + l + " " + m, x.ahead(l, m));
            }
        }
        told("tangled", x.tangled());
    }

    private void worsts() {
        for (int w : new int[] {0, 3, 14, 999}) {
            told("worst in TIME with " + w, x.worst(0, w));
            told("worst in ROOM with " + w, x.worst(1, w));
            told("its a", x.ask(0));
            told("its b", x.ask(1));
        }
        for (long s : new long[] {-1, 1, 20, UsedUp.MUCH}) {
            told("cheapest in TIME of " + s, x.cheapest(0, s));
            told("cheapest in ROOM of " + s, x.cheapest(1, s));
        }
    }

    private void budgets() {
        for (long bound : new long[] {0, 9, 25, 60, 1000}) {
            told("budgets for " + bound, x.budgets(bound));
            for (int place = 0; place < 8; place++) {
                told("its CAP of " + place, x.capped(place));
            }
        }
    }

    private void tape() {
        told("program of what the TAPE has", x.program());
        told("its fault", x.fault());
        told("its places", x.count(0));
        told("its steps", x.count(1));
        told("its TIME", x.spends(0, 7, 5, 3, 2));
    }

    private void names() {
        for (int k = 0; k < 4; k++) {
            Due.program(x, "spend " + "abcd".charAt(k) + ";");
            told("SIZE of " + k, x.worst(0, 999));
            told("WEIGHT of " + k, x.cheapest(0, 1));
        }
    }

    private void ordinaries() {
        Due.program(x, "times a{spend 1;}times b{spend 1;}times c{spend 1;}times d{spend 1;}times a*b{spend 1;}times c*d{spend 1;}");
        for (int place = 0; place < 6; place++) {
            told("ORDINARY need " + place, x.need(place));
        }
        told("one ORDINARY ask more", x.ordinary(0, 0, 0, 0));
    }
}
