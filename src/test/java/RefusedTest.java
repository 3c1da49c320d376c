import java.util.ArrayList;
import java.util.List;
import java.util.function.Consumer;
import java.util.function.ToLongFunction;

/**
 * Calls that are REFUSED, or that answer NONE, or that only tell: in each of some states, what they answer, what
 * status() tells behind them, and that nothing else is otherwise than without them.
 */
public final class RefusedTest {
    private static final Due due = new Due();
    private static final int MIN = Integer.MIN_VALUE;
    private static final int MAX = Integer.MAX_VALUE;
    private static final long MUCH = UsedUp.MUCH;

    private record State(String name, int places, int bytes, boolean program, boolean ask, Consumer<UsedUp> make) {
        UsedUp made() {
            UsedUp x = new UsedUp();
            make.accept(x);
            return x;
        }
    }

    private static final String RICH = "def f{lock 1{times a{spend 1;}}}def g{lock 2{call f;}}lock 0{hold b{times b{call g;}}}"
        + "if c<2{lock 1{lock 0{spend c;}}}else{times d+3{spend 2;}}";
    private static final List<State> STATES = new ArrayList<>();

    public static void main(String[] args) {
        makeStates();
        for (State state : STATES) {
            wrongNames(state);
            wrongCaps(state);
            wrongSorts(state);
            wrongOrdinary(state);
            wrongBounds(state);
            withoutProgram(state);
            tapeCalls(state);
            tellingOfPlaces(state);
            tellingOfAsks(state);
            tellingOfLocks(state);
            badTexts(state);
        }
        whatCanNotBeBrought();
        noRoomForMore();
        theFirstInOrder();
        due.finish();
    }

    private static void makeStates() {
        STATES.add(new State("new", 0, 0, false, false, x -> { }));
        STATES.add(new State("no PROGRAM", 0, 10, false, false, x -> {
            names(x);
            x.ordinary(5, 6, 7, 8);
            Due.program(x, "spend");
            Due.tape(x, "spend a*b;");
            x.worst(0, 0);
        }));
        STATES.add(new State("no PLACE", 0, 0, true, true, x -> {
            names(x);
            Due.program(x, "hold a{spend a+b;}");
            x.worst(1, 5);
            x.ordinary(0, 0, 0, 1001);
        }));
        STATES.add(new State("no ASK", 3, 5, true, false, x -> {
            Due.program(x, RICH);
            Due.tape(x, "spend");
            x.cap(1, 1);
        }));
        STATES.add(new State("rich", 3, 10, true, true, RefusedTest::rich));
        STATES.add(new State("rich, refused at last", 3, 10, true, true, x -> {
            rich(x);
            x.cap(9, 9);
        }));
        STATES.add(new State("full", 8, 400, true, true, x -> {
            for (int i = 0; i < 12; i++) {
                x.ordinary(i, 3, 12 - i, 1000);
            }
            Due.program(x, "times a{times b{spend 1;}}".repeat(4));
            for (int place = 0; place < 8; place++) {
                x.cap(place, 1000000 - place);
            }
            x.cheapest(0, 30);
            Due.tape(x, "spend 1;".repeat(49) + "spend a;");
        }));
    }

    private static void names(UsedUp x) {
        x.name(0, 3, 2);
        x.name(1, 2, 0);
        x.name(2, 5, 9);
        x.name(3, 1, 3);
    }

    private static void rich(UsedUp x) {
        names(x);
        Due.program(x, RICH);
        x.ordinary(2, 1, 3, 4);
        x.ordinary(1, 5, 0, 1);
        x.cap(0, 2);
        x.cap(2, 4);
        Due.program(x, "spend %");
        x.worst(0, 20);
        Due.tape(x, "spend a*b;");
    }

    /** A call that is REFUSED by its answer. */
    private static void refused(State state, String call, ToLongFunction<UsedUp> of, int by) {
        String what = state.name() + ": " + call;
        UsedUp x = state.made();
        due.is(what, of.applyAsLong(x), by);
        due.is(what + ", status", x.status(), by);
        Twins.same(due, what, x, state.made());
    }

    /** A call that status() does not look at, and that changes nothing. */
    private static void tells(State state, String call, ToLongFunction<UsedUp> of, long answer) {
        String what = state.name() + ": " + call;
        UsedUp x = state.made();
        UsedUp y = state.made();
        due.is(what, of.applyAsLong(x), answer);
        due.is(what + ", status stays", x.status(), y.status());
        Twins.same(due, what, x, y);
    }

    // Promise 2: "SIZE, WEIGHT of a NAME (0 .. 3): 0; -1."
    private static void wrongNames(State state) {
        int[][] wrong = {{-1, 1, 1}, {4, 1, 1}, {MIN, 1, 1}, {MAX, 1, 1}, {0, -1, 1}, {3, 6, 1}, {1, MIN, 1}, {2, MAX, 1},
            {0, 1, -1}, {3, 1, 10}, {1, 1, MIN}, {2, 1, MAX}, {-1, 6, 10}};
        for (int[] row : wrong) {
            refused(state, "name " + row[0] + " " + row[1] + " " + row[2], x -> x.name(row[0], row[1], row[2]), -1);
        }
    }

    // Promise 7: "-1 below NONE, above 1,000,000; -2."
    private static void wrongCaps(State state) {
        for (int cap : new int[] {-2, 1000001, MIN, MAX}) {
            for (int place : new int[] {0, 7, 8, -1}) {
                refused(state, "cap " + place + " " + cap, x -> x.cap(place, cap), -1);
            }
        }
        for (int place : new int[] {-1, state.places(), 8, MIN, MAX}) {
            for (int cap : new int[] {-1, 0, 1000000}) {
                refused(state, "cap " + place + " " + cap, x -> x.cap(place, cap), -2);
            }
        }
    }

    // Promise 10: "-1 (sort, w below 0)"; promise 11: "-1".
    private static void wrongSorts(State state) {
        for (int sort : new int[] {-1, 2, MIN, MAX}) {
            refused(state, "worst " + sort, x -> x.worst(sort, 9), -1);
            refused(state, "cheapest " + sort, x -> x.cheapest(sort, 1), -1);
            tells(state, "spends " + sort, x -> x.spends(sort, 0, 0, 0, 0), -1);
        }
        for (int w : new int[] {-1, MIN}) {
            refused(state, "worst 0 " + w, x -> x.worst(0, w), -1);
            refused(state, "worst 1 " + w, x -> x.worst(1, w), -1);
        }
    }

    // Promise 14: "-1 (each 0 .. 1000)"
    private static void wrongOrdinary(State state) {
        for (int wrong : new int[] {-1, 1001, MIN, MAX}) {
            refused(state, "ordinary a " + wrong, x -> x.ordinary(wrong, 0, 0, 0), -1);
            refused(state, "ordinary b " + wrong, x -> x.ordinary(0, wrong, 0, 0), -1);
            refused(state, "ordinary c " + wrong, x -> x.ordinary(0, 0, wrong, 0), -1);
            refused(state, "ordinary d " + wrong, x -> x.ordinary(0, 0, 0, wrong), -1);
        }
    }

    // Promise 16: "-1 the bound below 0"
    private static void wrongBounds(State state) {
        for (long bound : new long[] {-1, Long.MIN_VALUE, -4294967296L}) {
            refused(state, "budgets " + bound, x -> x.budgets(bound), -1);
        }
    }

    // Promises 10, 11, 16: "-6 no PROGRAM"; 9: "NONE without a PROGRAM"; 17: "or without a PROGRAM"; 18: "0 without".
    private static void withoutProgram(State state) {
        if (state.program()) {
            return;
        }
        for (int sort = 0; sort < 2; sort++) {
            int one = sort;
            refused(state, "worst", x -> x.worst(one, 0), -6);
            refused(state, "worst of all", x -> x.worst(one, MAX), -6);
            for (long s : new long[] {Long.MIN_VALUE, -1, 0, 1, MUCH, MUCH + 1, Long.MAX_VALUE}) {
                refused(state, "cheapest of " + s, x -> x.cheapest(one, s), -6);
            }
            tells(state, "spends", x -> x.spends(one, 0, 0, 0, 0), -1);
            tells(state, "spends of 1000", x -> x.spends(one, 1000, 1000, 1000, 1000), -1);
        }
        for (long bound : new long[] {0, 1, MUCH, Long.MAX_VALUE}) {
            refused(state, "budgets for " + bound, x -> x.budgets(bound), -6);
        }
        tells(state, "ahead", x -> x.ahead(0, 1), -1);
        tells(state, "ahead of itself", x -> x.ahead(7, 7), -1);
        tells(state, "tangled", UsedUp::tangled, 0);
    }

    // Promise 3: "NONE, if there would be more than 400."; promise 4: "NONE, if it has not so many, or n is below 0."
    private static void tapeCalls(State state) {
        for (int n : new int[] {-1, MIN, state.bytes() + 1, MAX, 401}) {
            tells(state, "end " + n, x -> x.end(n), -1);
        }
        tells(state, "end of all", x -> x.end(state.bytes()), state.bytes());
        tells(state, "count of the bytes", x -> x.count(4), state.bytes());
        if (state.bytes() > 380) {
            tells(state, "feed", x -> x.feed(0, 0, 0, 0, 0), -1);
            tells(state, "feed of blanks", x -> x.feed(0x20202020, 0x20202020, 0x20202020, 0x20202020, 0x20202020), -1);
        }
        // What is fed and cut away again leaves nothing.
        if (state.bytes() <= 380) {
            tells(state, "feed and end", x -> x.feed(-1, MAX, 0, MIN, 1) * 0 + x.end(state.bytes()), state.bytes());
        }
    }

    // Promises 8, 13, 15: "NONE (without PLACE, CAP)", "NONE", "NONE"; 19: "NONE for others".
    private static void tellingOfPlaces(State state) {
        for (int place : new int[] {-1, state.places(), 8, MIN, MAX}) {
            tells(state, "capped " + place, x -> x.capped(place), -1);
            tells(state, "where " + place, x -> x.where(place), -1);
            tells(state, "need " + place, x -> x.need(place), -1);
        }
        for (int place = 0; place < state.places(); place++) {
            int one = place;
            tells(state, "capped " + place, x -> x.capped(one), state.made().capped(place));
            tells(state, "need " + place, x -> x.need(one), state.made().need(place));
            tells(state, "where " + place, x -> x.where(one), state.ask() ? state.made().where(place) : -1);
        }
        for (int what : new int[] {-1, 6, MIN, MAX}) {
            tells(state, "count " + what, x -> x.count(what), -1);
        }
        for (int what = 0; what < 6; what++) {
            int one = what;
            tells(state, "count " + what, x -> x.count(one), state.made().count(what));
        }
    }

    // Promise 9: "NONE .. of numbers below 0 or above 1000"; promise 12: "NONE without".
    private static void tellingOfAsks(State state) {
        for (int wrong : new int[] {-1, 1001, MIN, MAX}) {
            for (int sort = 0; sort < 2; sort++) {
                int one = sort;
                tells(state, "spends a " + wrong, x -> x.spends(one, wrong, 0, 0, 0), -1);
                tells(state, "spends b " + wrong, x -> x.spends(one, 0, wrong, 0, 0), -1);
                tells(state, "spends c " + wrong, x -> x.spends(one, 0, 0, wrong, 0), -1);
                tells(state, "spends d " + wrong, x -> x.spends(one, 0, 0, 0, wrong), -1);
            }
        }
        tells(state, "spends 1 2 3 4", x -> x.spends(0, 1, 2, 3, 4), state.made().spends(0, 1, 2, 3, 4));
        for (int k : new int[] {-1, 4, MIN, MAX}) {
            tells(state, "ask " + k, x -> x.ask(k), -1);
        }
        for (int k = 0; k < 4; k++) {
            int one = k;
            tells(state, "ask " + k, x -> x.ask(one), state.ask() ? state.made().ask(k) : -1);
            due.that(state.name() + ": an ASK or none " + k, state.made().ask(k) >= 0 == state.ask());
        }
    }

    // Promise 17: "NONE of locks that can't be"; promises 6, 18, 20 tell alone.
    private static void tellingOfLocks(State state) {
        for (int wrong : new int[] {-1, 8, MIN, MAX, 32, -32}) {
            tells(state, "ahead " + wrong + " 0", x -> x.ahead(wrong, 0), -1);
            tells(state, "ahead 0 " + wrong, x -> x.ahead(0, wrong), -1);
            tells(state, "ahead " + wrong + " twice", x -> x.ahead(wrong, wrong), -1);
        }
        tells(state, "ahead 0 1", x -> x.ahead(0, 1), state.made().ahead(0, 1));
        tells(state, "tangled", UsedUp::tangled, state.made().tangled());
        tells(state, "fault", UsedUp::fault, state.made().fault());
        tells(state, "status", UsedUp::status, state.made().status());
    }

    // Promise 5: "The TAPE, which is empty then"; "-6: it stays as it was, FAULT is told."
    private static void badTexts(State state) {
        String[] texts = {"", "spend 1;%", "def f{spend 1;}", "times 1{spend 1;}".repeat(9), "def h{lock 5{lock 6{spend a;}}}lock 6{lock 5{"};
        int[] faults = {0, 8, 15, 136, 45};
        for (int i = 0; i < texts.length; i++) {
            String what = state.name() + ": program of " + texts[i];
            UsedUp x = state.made();
            Due.tape(x, texts[i]);
            due.is(what, x.program(), -6);
            due.is(what + ", status", x.status(), -6);
            due.is(what + ", fault", x.fault(), faults[i]);
            due.is(what + ", the TAPE is empty", x.count(4), 0);
            UsedUp y = state.made();
            y.end(0);
            Twins.sameButFault(due, what, x, y);
        }
    }

    // Promise 11: "no such ASK"; promise 16: "or not even with all (CAPS stay)".
    private static void whatCanNotBeBrought() {
        for (State state : STATES) {
            if (!state.program()) {
                continue;
            }
            for (int sort = 0; sort < 2; sort++) {
                int one = sort;
                long most = state.made().worst(sort, MAX);
                refused(state, "cheapest of one above the most", x -> x.cheapest(one, most + 1), -6);
                refused(state, "cheapest above MUCH", x -> x.cheapest(one, MUCH + 1), -6);
                refused(state, "cheapest of the greatest number", x -> x.cheapest(one, Long.MAX_VALUE), -6);
                UsedUp x = state.made();
                due.that(state.name() + ": the most itself is brought", x.cheapest(sort, most) >= 0);
                due.is(state.name() + ": the most itself, status", x.status(), 0);
            }
        }
        refused(STATES.get(2), "budgets without a PLACE", x -> x.budgets(4), -6);
        due.is("budgets without a PLACE, enough", STATES.get(2).made().budgets(5), 0);
        refused(STATES.get(4), "budgets of nothing", x -> x.budgets(0), -6);
        refused(STATES.get(5), "budgets of nothing", x -> x.budgets(0), -6);
    }

    // Promise 14: "-5"
    private static void noRoomForMore() {
        State full = STATES.get(6);
        refused(full, "ordinary 0", x -> x.ordinary(0, 0, 0, 0), -5);
        refused(full, "ordinary 1000", x -> x.ordinary(1000, 1000, 1000, 1000), -5);
        refused(full, "ordinary again", x -> x.ordinary(11, 3, 1, 1000), -5);
    }

    // "The first of these in that order."
    private static void theFirstInOrder() {
        UsedUp x = STATES.get(6).made();
        due.is("-1 ahead of -5", x.ordinary(0, 0, 0, 1001), -1);
        due.is("-1 ahead of -5, status", x.status(), -1);
        due.is("-1 ahead of -2", x.cap(8, -2), -1);
        due.is("-1 ahead of -2, status", x.status(), -1);
        UsedUp y = new UsedUp();
        due.is("-1 ahead of -2 without a PROGRAM", y.cap(0, 1000001), -1);
        due.is("-2 without a PROGRAM", y.cap(0, 1000000), -2);
        due.is("-1 ahead of -6 in worst, by the sort", y.worst(2, 0), -1);
        due.is("-1 ahead of -6 in worst, by w", y.worst(0, -1), -1);
        due.is("-1 ahead of -6 in cheapest", y.cheapest(-1, 0), -1);
        due.is("-1 ahead of -6 in budgets", y.budgets(-1), -1);
        due.is("-1 ahead of -6, status", y.status(), -1);
    }
}
