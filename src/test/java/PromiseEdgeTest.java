/**
 * The sentences of the promises 1 to 20 that name a boundary, or what holds without a PROGRAM, a PLACE, a CAP, an ASK,
 * an ORDINARY ask; each stands over its test, as the document has it. What REFUSED calls leave is in RefusedTest.
 */
public final class PromiseEdgeTest {
    private static final Due due = new Due();
    private static final int MAX = Integer.MAX_VALUE;
    private static final long MUCH = UsedUp.MUCH;
    private static final int BLANKS = 0x20202020;
    private static final String EIGHT = "times a{spend 1;}".repeat(8);

    public static void main(String[] args) {
        aNewObject();
        aNewObjectIsAsAnother();
        namesApart();
        fedBytesInOrder();
        fedToFourHundred();
        endOfTheTape();
        endKeepsTheFirst();
        programEmptiesTheTape();
        programTakesCapsAway();
        programKeepsTheRest();
        faultOfTheLatest();
        capsOfEachPlace();
        capAnswersNone();
        cappedWithout();
        spendsToThousand();
        spendsByCapsOfNow();
        worstIsKept();
        worstWithinAllWeights();
        cheapestIsKept();
        cheapestOfAnyNumber();
        askOfTheLatest();
        askStays();
        whereByCapsOfNow();
        whereWithout();
        ordinaryToThousand();
        needWithout();
        budgetsFromNothing();
        budgetsAreTheCaps();
        budgetsThatFail();
        aheadOfEachTwo();
        tangledWithout();
        countOfEach();
        statusOfEach();
        fiveHundredTwelveCalls();
        due.finish();
    }

    // Promise 1: "No PROGRAM."
    private static void aNewObject() {
        UsedUp x = new UsedUp();
        due.is("status ahead of any", x.status(), 0);
        for (int what = 0; what <= 5; what++) {
            due.is("count " + what + " of a new object", x.count(what), 0);
        }
        due.is("fault of a new object", x.fault(), -1);
        due.is("tangled of a new object", x.tangled(), 0);
        for (int i = 0; i < 8; i++) {
            due.is("capped of a new object", x.capped(i), -1);
            due.is("need of a new object", x.need(i), -1);
            due.is("where of a new object", x.where(i), -1);
            due.is("ahead of a new object", x.ahead(i, 7 - i), -1);
        }
        for (int k = 0; k < 4; k++) {
            due.is("ask of a new object", x.ask(k), -1);
        }
        due.is("TIME of a new object", x.spends(0, 0, 0, 0, 0), -1);
        due.is("ROOM of a new object", x.spends(1, 0, 0, 0, 0), -1);
        due.is("status ahead of any still", x.status(), 0);
        due.is("worst of a new object", x.worst(0, 0), -6);
        due.is("worst in ROOM of a new object", x.worst(1, MAX), -6);
        due.is("cheapest of a new object", x.cheapest(0, 0), -6);
        due.is("budgets of a new object", x.budgets(MUCH), -6);
        due.is("cap of a new object", x.cap(0, -1), -2);
        due.is("program of an empty TAPE", x.program(), -6);
        due.is("its fault", x.fault(), 0);
    }

    // Promise 1, with another object beside it: nothing is shared.
    private static void aNewObjectIsAsAnother() {
        UsedUp x = Due.with("times a{lock 1{lock 2{spend 1;}}}");
        x.name(0, 2, 9);
        x.ordinary(1, 1, 1, 1);
        x.cap(0, 1);
        x.worst(0, 99);
        Twins.same(due, "a new object beside a used one", new UsedUp(), new UsedUp());
        UsedUp y = new UsedUp();
        due.is("no PROGRAM of the other", y.worst(0, 0), -6);
        due.is("no ORDINARY ask of the other", y.count(2), 0);
        Due.program(y, "spend a;");
        due.is("no SIZE of the other", y.worst(0, 99), 5);
        due.is("no WEIGHT of the other", y.cheapest(0, 5), 5);
        due.is("the other's CAP is its own", x.capped(0), 1);
    }

    // Promise 2: "SIZE, WEIGHT of a NAME (0 .. 3): 0"
    private static void namesApart() {
        for (int named = 0; named < 4; named++) {
            UsedUp x = Due.with("spend 1000*a+100*b+10*c+d;");
            due.is("name " + named, x.name(named, 2, 7), 0);
            due.is("name " + named + ", status", x.status(), 0);
            int[] power = {1000, 100, 10, 1};
            due.is("SIZE of " + named + " alone", x.worst(0, 99), 5555 - 3 * power[named]);
            due.is("WEIGHT of " + named + " alone", x.cheapest(0, 5555 - 3 * power[named]), 15 + 14);
        }
        UsedUp x = Due.with("spend d;");
        due.is("the least of all", x.name(0, 0, 0), 0);
        due.is("the most of all", x.name(3, 5, 9), 0);
        due.is("the most of all, heavy", x.cheapest(0, 5), 45);
    }

    // Promise 3: "Twenty bytes come behind the TAPE, four of each number, the highest first"
    private static void fedBytesInOrder() {
        for (int i = 0; i < 20; i++) {
            int[] five = {BLANKS, BLANKS, BLANKS, BLANKS, BLANKS};
            int shift = 24 - i % 4 * 8;
            five[i / 4] = BLANKS & ~(255 << shift) | 0xff << shift;
            UsedUp x = new UsedUp();
            x.feed(BLANKS, BLANKS, BLANKS, BLANKS, BLANKS);
            due.is("feed behind", x.feed(five[0], five[1], five[2], five[3], five[4]), 40);
            due.is("a byte that can't be", x.program(), -6);
            due.is("byte " + i + " of twenty", x.fault(), 20 + i);
        }
    }

    // Promise 3: "how many it has. NONE, if there would be more than 400."
    private static void fedToFourHundred() {
        UsedUp x = new UsedUp();
        for (int bytes = 20; bytes <= 400; bytes += 20) {
            due.is("feed to " + bytes, x.feed(BLANKS, BLANKS, BLANKS, BLANKS, BLANKS), bytes);
            due.is("bytes of the TAPE", x.count(4), bytes);
        }
        for (int bytes = 400; bytes > 380; bytes--) {
            due.is("end at " + bytes, x.end(bytes), bytes);
            due.is("no feed behind " + bytes, x.feed(0, 0, 0, 0, 0), -1);
            due.is("it has " + bytes + " still", x.count(4), bytes);
        }
        x.end(380);
        due.is("feed behind 380", x.feed(0, 0, 0, 0, 0), 400);
        x.end(379);
        due.is("feed behind 379", x.feed(BLANKS, BLANKS, BLANKS, BLANKS, BLANKS), 399);
        due.is("no status of feed", x.status(), 0);
        due.is("what feed was refused is not there", x.program(), -6);
        due.is("blanks to the end", x.fault(), 399);
        due.is("feed from the beginning", x.feed(0, 0, 0, 0, 0), 20);
    }

    // Promise 4: "n. NONE, if it has not so many, or n is below 0."
    private static void endOfTheTape() {
        UsedUp x = new UsedUp();
        due.is("0 of 0", x.end(0), 0);
        due.is("1 of 0", x.end(1), -1);
        due.is("-1 of 0", x.end(-1), -1);
        x.feed(0, 0, 0, 0, 0);
        for (int n = 20; n >= 0; n--) {
            due.is("one more than " + n, x.end(n + 1), n == 20 ? -1 : n + 1);
            due.is("just " + n, x.end(n), n);
            due.is("it has " + n, x.count(4), n);
            due.is("below 0 of " + n, x.end(-1), -1);
            due.is("cut away: " + n, x.end(n + 1), -1);
            x.feed(0, 0, 0, 0, 0);
            due.is("end at " + n + " again", x.end(n), n);
        }
        due.is("no status of end", x.status(), 0);
    }

    // Promise 4: "The TAPE has its first n bytes alone"
    private static void endKeepsTheFirst() {
        String text = "spend 7;spend 1;zzzz";
        int[] rows = Due.rows(text);
        int[] good = {8, 16};
        int[] times = {7, 8};
        for (int i = 0; i < 2; i++) {
            UsedUp x = new UsedUp();
            x.feed(rows[0], rows[1], rows[2], rows[3], rows[4]);
            x.end(good[i]);
            due.is("the first " + good[i], x.program(), 0);
            due.is("TIME of the first " + good[i], x.spends(0, 0, 0, 0, 0), times[i]);
        }
        UsedUp x = new UsedUp();
        x.feed(rows[0], rows[1], rows[2], rows[3], rows[4]);
        x.end(6);
        due.is("behind the first 6", x.feed(rows[0], rows[1], rows[2], rows[3], rows[4]), 26);
        due.is("what is behind them", x.program(), -6);
        due.is("its FAULT", x.fault(), 6);
        // Bytes that are cut away are no part of a TOKEN.
        int[] numbers = Due.rows("spend 1000+100;spend");
        for (int n = 0; n <= 20; n++) {
            UsedUp cut = new UsedUp();
            cut.feed(numbers[0], numbers[1], numbers[2], numbers[3], numbers[4]);
            cut.end(n);
            UsedUp alone = new UsedUp();
            Due.tape(alone, "spend 1000+100;spend".substring(0, n));
            due.is("cut to " + n, cut.program(), n == 15 ? 0 : -6);
            due.is("its twin of " + n, alone.program(), n == 15 ? 0 : -6);
            due.is("FAULT of " + n, cut.fault(), alone.fault());
        }
        UsedUp whole = new UsedUp();
        whole.feed(numbers[0], numbers[1], numbers[2], numbers[3], numbers[4]);
        whole.end(19);
        whole.program();
        due.is("a TOKEN that is cut", whole.fault(), 15);
    }

    // Promise 5: "The TAPE, which is empty then"
    private static void programEmptiesTheTape() {
        UsedUp x = new UsedUp();
        for (String text : new String[] {"spend 1;", "spend", " ".repeat(400), "", EIGHT}) {
            Due.tape(x, text);
            due.is("bytes of a TEXT", x.count(4), text.length());
            x.program();
            due.is("the TAPE is empty", x.count(4), 0);
            due.is("no byte is left", x.end(1), -1);
            due.is("nothing is no PROGRAM", x.program(), -6);
            due.is("the FAULT of nothing", x.fault(), 0);
        }
    }

    // Promise 5: "(no CAPS": at none of the PLACES.
    private static void programTakesCapsAway() {
        UsedUp x = Due.with(EIGHT);
        for (int place = 0; place < 8; place++) {
            x.cap(place, place);
        }
        due.is("the same TEXT again", Due.program(x, EIGHT), 8);
        due.is("no CAPS", x.count(3), 0);
        for (int place = 0; place < 8; place++) {
            due.is("no CAP of " + place, x.capped(place), -1);
        }
        due.is("TIME without CAPS", x.spends(0, 3, 0, 0, 0), 48);
        x.cap(7, 0);
        due.is("a TEXT with fewer PLACES", Due.program(x, "times a{spend 1;}"), 1);
        due.is("no CAPS counted", x.count(3), 0);
        due.is("no PLACE of the one before", x.capped(7), -1);
        due.is("no PLACE of the one before to cap", x.cap(7, 0), -2);
        due.is("no PLACE of the one before to need", x.need(1), -1);
        due.is("a TEXT with eight again", Due.program(x, EIGHT), 8);
        due.is("the CAP does not come back", x.capped(7), -1);
    }

    // Promise 5: "ORDINARY asks stay"; "how many PLACES it has"; and NAMES, which are no part of a PROGRAM, stay.
    private static void programKeepsTheRest() {
        UsedUp x = new UsedUp();
        x.name(0, 3, 4);
        x.ordinary(7, 8, 0, 0);
        due.is("a PROGRAM of no PLACE", Due.program(x, "spend a;"), 0);
        due.is("SIZE stays", x.worst(0, 999), 3);
        due.is("WEIGHT stays", x.cheapest(0, 3), 12);
        due.is("a PROGRAM of two", Due.program(x, "times a{spend 1;}times b{spend 1;}"), 2);
        due.is("ORDINARY asks stay", x.count(2), 1);
        due.is("NEED by them", x.need(0), 7);
        due.is("NEED by them too", x.need(1), 8);
        due.is("SIZE stays again", x.name(1, 0, 1) + x.worst(0, 999), 6);
        due.is("DEFS of another", Due.program(x, "def f{spend 1;}def g{spend 1;}spend 1;"), 0);
        due.is("DEFS are counted", x.count(5), 2);
        Due.program(x, "spend 1;");
        due.is("DEFS are gone", x.count(5), 0);
        due.is("STEPS are its own", x.count(1), 1);
    }

    // Promise 6: "FAULT of the latest program(): its place; NONE without."
    private static void faultOfTheLatest() {
        UsedUp x = new UsedUp();
        due.is("without a program()", x.fault(), -1);
        Due.program(x, "spend 1;");
        due.is("without a FAULT", x.fault(), -1);
        Due.program(x, "spend %");
        due.is("a FAULT", x.fault(), 6);
        Due.tape(x, "spend 1;");
        due.is("it is the latest still", x.fault(), 6);
        Due.program(x, "%");
        due.is("a FAULT at 0", x.fault(), 0);
        Due.program(x, "spend 1;" + " ".repeat(391) + "%");
        due.is("a FAULT at the last byte", x.fault(), 399);
        Due.program(x, "spend 1" + " ".repeat(393));
        due.is("a FAULT at the end", x.fault(), 400);
        Due.program(x, "spend 1;");
        due.is("none again", x.fault(), -1);
    }

    // Promise 7: "CAP of a PLACE (NONE: none): what it was."
    private static void capsOfEachPlace() {
        UsedUp x = Due.with(EIGHT);
        for (int place = 0; place < 8; place++) {
            due.is("it was none", x.cap(place, 1000000), -1);
            due.is("as many CAPS", x.count(3), place + 1);
        }
        for (int place = 0; place < 8; place++) {
            due.is("it was the most", x.cap(place, 0), 1000000);
            due.is("it is the least", x.capped(place), 0);
            due.is("TIME of the others", x.spends(0, 10, 0, 0, 0), 20 * (7 - place));
        }
        for (int place = 0; place < 8; place++) {
            due.is("it was the least", x.cap(place, -1), 0);
            due.is("it is none", x.capped(place), -1);
            due.is("fewer CAPS", x.count(3), 7 - place);
        }
        due.is("no ninth PLACE", x.cap(8, 0), -2);
    }

    // Promise 7: "(NONE is an answer, too: status() tells.)"
    private static void capAnswersNone() {
        UsedUp x = Due.with("times a{spend 1;}");
        due.is("refused", x.cap(0, -2), -1);
        due.is("status tells it", x.status(), -1);
        due.is("it was none", x.cap(0, -1), -1);
        due.is("status tells that it was taken", x.status(), 0);
        due.is("the greatest", x.cap(0, 1000000), -1);
        due.is("the greatest is taken", x.status(), 0);
        due.is("one above the greatest", x.cap(0, 1000001), -1);
        due.is("one above is refused", x.status(), -1);
        due.is("the greatest stays", x.capped(0), 1000000);
        due.is("below NONE", x.cap(0, -2), -1);
        due.is("the greatest stays still", x.capped(0), 1000000);
        due.is("no PLACE", x.cap(1, 1), -2);
        due.is("no PLACE, status", x.status(), -2);
        due.is("below the first PLACE", x.cap(-1, 1), -2);
        due.is("the greatest stays at last", x.cap(0, 3), 1000000);
        due.is("taken at last", x.status(), 0);
    }

    // Promise 8: "CAP of a PLACE; NONE (without PLACE, CAP)."
    private static void cappedWithout() {
        UsedUp x = Due.with("times a{spend 1;}times b{spend 1;}");
        due.is("without a CAP", x.capped(0), -1);
        x.cap(1, 0);
        due.is("a CAP of 0", x.capped(1), 0);
        due.is("without a CAP still", x.capped(0), -1);
        due.is("without the PLACE", x.capped(2), -1);
        due.is("below the first", x.capped(-1), -1);
        Due.program(x, "spend 1;");
        due.is("without any PLACE", x.capped(0), -1);
    }

    // Promise 9: "(numbers above SIZE, too, to 1000); NONE .. of numbers below 0 or above 1000"
    private static void spendsToThousand() {
        UsedUp x = Due.with("spend a+b+c+d;hold a+b+c+d{spend 0;}");
        for (int k = 0; k < 4; k++) {
            x.name(k, 0, 1);
        }
        int[] numbers = {-1, 0, 1, 5, 6, 999, 1000, 1001};
        for (int sort = 0; sort < 2; sort++) {
            for (int n : numbers) {
                long want = n < 0 || n > 1000 ? -1 : n;
                due.is("a is " + n, x.spends(sort, n, 0, 0, 0), want);
                due.is("b is " + n, x.spends(sort, 0, n, 0, 0), want);
                due.is("c is " + n, x.spends(sort, 0, 0, n, 0), want);
                due.is("d is " + n, x.spends(sort, 0, 0, 0, n), want);
            }
            due.is("all are 1000", x.spends(sort, 1000, 1000, 1000, 1000), 4000);
        }
        due.is("sort 2", x.spends(2, 0, 0, 0, 0), -1);
        due.is("sort -1", x.spends(-1, 0, 0, 0, 0), -1);
        due.is("no status of spends", x.status(), 0);
    }

    // Promise 9, with Terms II: TURNS by CAPS
    private static void spendsByCapsOfNow() {
        UsedUp x = Due.with("times a{hold 5{spend 1;}}");
        due.is("no CAP", x.spends(0, 9, 0, 0, 0), 18);
        x.cap(0, 4);
        due.is("a CAP", x.spends(0, 9, 0, 0, 0), 8);
        x.cap(0, 0);
        due.is("a CAP of 0", x.spends(0, 9, 0, 0, 0), 0);
        due.is("ROOM with a CAP of 0", x.spends(1, 9, 0, 0, 0), 0);
        x.cap(0, -1);
        due.is("no CAP again", x.spends(0, 9, 0, 0, 0), 18);
        due.is("ROOM without", x.spends(1, 9, 0, 0, 0), 5);
    }

    // Promise 10: "WORST, kept as the latest ASK: what it brings."
    private static void worstIsKept() {
        UsedUp x = Due.with("spend a+10*b;hold c+10*d{spend 0;}");
        due.is("worst in TIME", x.worst(0, 6), 51);
        due.latest("kept", x, 1, 5, 0, 0);
        due.is("worst in ROOM", x.worst(1, 7), 52);
        due.latest("kept then", x, 0, 0, 2, 5);
        due.is("worst of nothing", x.worst(0, 0), 0);
        due.latest("kept, of nothing", x, 0, 0, 0, 0);
        due.is("status of worst", x.status(), 0);
        x.name(1, 0, 1);
        x.name(0, 0, 1);
        due.is("worst within SIZE 0", x.worst(0, 99), 0);
        due.latest("kept, within SIZE 0", x, 0, 0, 0, 0);
        UsedUp y = Due.with("times a{spend 1;}");
        y.cap(0, 3);
        due.is("worst by CAPS of now", y.worst(0, 99), 6);
        due.latest("the lightest by CAPS", y, 3, 0, 0, 0);
        y.cap(0, 0);
        due.is("worst with no TURNS", y.worst(0, 99), 0);
        due.latest("the lightest of no TURNS", y, 0, 0, 0, 0);
    }

    // Promise 10: w from 0, to the greatest number
    private static void worstWithinAllWeights() {
        UsedUp x = Due.with("spend a;");
        due.is("w 0", x.worst(0, 0), 0);
        due.is("w 0, status", x.status(), 0);
        due.is("w 5", x.worst(0, 5), 5);
        due.is("the greatest w", x.worst(0, MAX), 5);
        due.is("w below 0", x.worst(0, -1), -1);
        due.is("w below 0, status", x.status(), -1);
        due.is("the ASK stays", x.ask(0), 5);
    }

    // Promise 11: "CHEAPEST, kept as the latest ASK: its weight."
    private static void cheapestIsKept() {
        UsedUp x = Due.with("spend a+10*b;hold c+10*d{spend 0;}");
        x.name(1, 5, 4);
        due.is("cheapest in TIME", x.cheapest(0, 51), 21);
        due.latest("kept", x, 1, 5, 0, 0);
        due.is("cheapest in ROOM", x.cheapest(1, 52), 7);
        due.latest("kept then", x, 0, 0, 2, 5);
        due.is("cheapest of nothing", x.cheapest(0, 0), 0);
        due.latest("kept, of nothing", x, 0, 0, 0, 0);
        due.is("status of cheapest", x.status(), 0);
        UsedUp y = Due.with("times a{spend 1;}");
        y.cap(0, 3);
        due.is("cheapest by CAPS of now", y.cheapest(0, 6), 3);
        due.is("no such ASK by CAPS of now", y.cheapest(0, 7), -6);
        due.is("no such ASK, status", y.status(), -6);
        due.latest("the latest stays", y, 3, 0, 0, 0);
    }

    // Promise 11: "-1; -6 no PROGRAM, no such ASK": of s, none is a number that can't be.
    private static void cheapestOfAnyNumber() {
        UsedUp x = Due.with("spend 3+a;");
        for (long s : new long[] {Long.MIN_VALUE, -4294967296L, -1, 0, 1, 3}) {
            due.is("at least " + s, x.cheapest(0, s), 0);
            due.is("at least " + s + ", status", x.status(), 0);
        }
        due.is("one more", x.cheapest(0, 4), 1);
        due.is("the most", x.cheapest(0, 8), 5);
        for (long s : new long[] {9, 4294967296L, 4294967299L, MUCH, MUCH + 1, Long.MAX_VALUE}) {
            due.is("at least " + s, x.cheapest(0, s), -6);
            due.is("at least " + s + ", status", x.status(), -6);
        }
        UsedUp y = Due.with("spend 1000*1000*1000*1000*a;");
        due.is("MUCH", y.cheapest(0, MUCH), 1);
        due.is("above MUCH", y.cheapest(0, MUCH + 1), -6);
    }

    // Promise 12: "Number k (0 .. 3) of the latest ASK; NONE without."
    private static void askOfTheLatest() {
        UsedUp x = Due.with("spend a*b*c*d;");
        for (int k = -1; k <= 4; k++) {
            due.is("without an ASK " + k, x.ask(k), -1);
        }
        for (int k = 0; k < 4; k++) {
            x.name(k, k + 2, 1);
        }
        due.is("an ASK", x.worst(0, 99), 2 * 3 * 4 * 5);
        due.latest("an ASK", x, 2, 3, 4, 5);
        due.is("below", x.ask(-1), -1);
        due.is("above", x.ask(4), -1);
    }

    // Promises 10, 11, 12: an ASK is the latest until another is.
    private static void askStays() {
        UsedUp x = Due.with("times a{spend 1;}");
        x.worst(0, 4);
        x.spends(0, 1, 2, 3, 4);
        x.ordinary(1, 2, 3, 4);
        x.name(0, 1, 1);
        x.cap(0, 1);
        x.budgets(0);
        x.worst(2, 4);
        x.worst(0, -1);
        x.cheapest(0, 1000);
        due.latest("it stays", x, 4, 0, 0, 0);
        Due.program(x, "spend");
        due.latest("it stays over a TEXT that can't be", x, 4, 0, 0, 0);
        Due.program(x, "times a{spend 2;}");
        due.latest("it stays over another PROGRAM", x, 4, 0, 0, 0);
        due.is("WHERE by that PROGRAM", x.where(0), 12);
        x.worst(0, 4);
        due.latest("another is", x, 1, 0, 0, 0);
    }

    // Promise 13: "the TIME of a PLACE for the latest ASK by CAPS of now"
    private static void whereByCapsOfNow() {
        UsedUp x = Due.with("times a{times 3{spend 1;}}");
        x.cap(0, 2);
        due.is("worst by a CAP", x.worst(0, 99), 2 * 7);
        due.is("where by a CAP", x.where(0), 14);
        x.cap(0, -1);
        due.is("without it", x.where(0), 14);
        due.is("within, without it", x.where(1), 12);
        due.is("worst without it", x.worst(0, 99), 35);
        x.cap(0, 4);
        due.is("a CAP below the ASK's number", x.where(0), 28);
        due.is("within it", x.where(1), 24);
        x.cap(1, 1);
        due.is("a CAP within", x.where(1), 8);
        due.is("around it", x.where(0), 12);
        x.cap(1, 0);
        due.is("a CAP of 0 within", x.where(1), 0);
        due.is("around a CAP of 0", x.where(0), 4);
        x.cap(0, 0);
        due.is("a CAP of 0", x.where(0), 0);
        x.cheapest(0, 0);
        due.is("for the ASK of cheapest", x.ask(0), 0);
        UsedUp y = Due.with("hold a{times a{spend 1;}}");
        y.worst(1, 99);
        due.is("TIME for an ASK that is WORST in ROOM", y.where(0), 10);
    }

    // Promise 13: "NONE."
    private static void whereWithout() {
        UsedUp x = new UsedUp();
        due.is("without a PROGRAM", x.where(0), -1);
        Due.program(x, EIGHT);
        due.is("without an ASK", x.where(0), -1);
        x.cheapest(0, 999);
        due.is("without such an ASK", x.where(0), -1);
        x.worst(0, 1);
        for (int place = 0; place < 8; place++) {
            due.is("with all", x.where(place), 2);
        }
        due.is("without the PLACE", x.where(8), -1);
        due.is("below the first", x.where(-1), -1);
        Due.program(x, "spend 1;");
        due.is("without any PLACE", x.where(0), -1);
    }

    // Promise 14: "how many there are. -1 (each 0 .. 1000); -5."
    private static void ordinaryToThousand() {
        UsedUp x = new UsedUp();
        int[] wrong = {-1, 1001};
        int many = 0;
        for (int k = 0; k < 4; k++) {
            for (int n : new int[] {0, 1000}) {
                many++;
                due.is("number " + k + " is " + n, x.ordinary(k == 0 ? n : 1, k == 1 ? n : 1, k == 2 ? n : 1, k == 3 ? n : 1), many);
                due.is("number " + k + " is " + n + ", status", x.status(), 0);
            }
            for (int n : wrong) {
                due.is("number " + k + " is " + n, x.ordinary(k == 0 ? n : 1, k == 1 ? n : 1, k == 2 ? n : 1, k == 3 ? n : 1), -1);
                due.is("number " + k + " is " + n + ", status", x.status(), -1);
                due.is("none comes", x.count(2), many);
            }
        }
        for (int more = many + 1; more <= 12; more++) {
            due.is("as many", x.ordinary(0, 0, 0, 0), more);
        }
        due.is("no room", x.ordinary(0, 0, 0, 0), -5);
        due.is("no room, status", x.status(), -5);
        due.is("no room again", x.ordinary(1, 1, 1, 1), -5);
        due.is("a number that can't be, and no room", x.ordinary(0, 0, 0, -1), -1);
        due.is("twelve", x.count(2), 12);
    }

    // Promise 15: "NEED of a PLACE; NONE."
    private static void needWithout() {
        UsedUp x = new UsedUp();
        x.ordinary(3, 3, 3, 3);
        due.is("without a PROGRAM", x.need(0), -1);
        Due.program(x, "spend 1;");
        due.is("without any PLACE", x.need(0), -1);
        Due.program(x, EIGHT);
        for (int place = 0; place < 8; place++) {
            due.is("with all", x.need(place), 3);
        }
        due.is("without the PLACE", x.need(8), -1);
        due.is("below the first", x.need(-1), -1);
        UsedUp y = Due.with("times a+9{spend 1;}");
        due.is("without an ORDINARY ask", y.need(0), 0);
        y.ordinary(0, 0, 0, 0);
        due.is("with one of 0", y.need(0), 9);
        y.cap(0, 1);
        due.is("whatever its CAP", y.need(0), 9);
    }

    // Promise 16: "how many. -1 the bound below 0"
    private static void budgetsFromNothing() {
        UsedUp x = Due.with("times a{spend 1;}");
        due.is("a bound of 0", x.budgets(0), 1);
        due.is("a bound of 0, status", x.status(), 0);
        due.is("its CAP", x.capped(0), 0);
        due.is("below 0", x.budgets(-1), -1);
        due.is("below 0, status", x.status(), -1);
        due.is("CAPS stay", x.capped(0), 0);
        due.is("a bound just kept", x.budgets(10), 0);
        due.is("no CAP is left", x.capped(0), -1);
        due.is("a bound just broken", x.budgets(9), 1);
        due.is("the greatest bound", x.budgets(Long.MAX_VALUE), 0);
        // Bounds that would be 0, 9 or below 0, were they cut to 32 bits.
        for (long bound : new long[] {4294967296L, 4294967305L, 6442450944L, MUCH, MUCH + 1}) {
            due.is("a bound of " + bound, x.budgets(bound), 0);
            due.is("no CAP for " + bound, x.count(3), 0);
        }
        UsedUp far = Due.with("times 1000*1000*1000*a{spend 0;}times b{spend 0;}");
        far.name(1, 0, 1);
        due.is("a bound that is far, just kept", far.budgets(5000000000L), 0);
        due.is("a bound that is far, just broken", far.budgets(4999999999L), 1);
        UsedUp y = Due.with("spend 1000*1000*1000*1000*1000;");
        due.is("MUCH within MUCH", y.budgets(MUCH), 0);
        due.is("MUCH above less", y.budgets(MUCH - 1), -6);
    }

    // Promise 16: "as CAPS"; Terms IV: "and none elsewhere", "They are then the CAPS."
    private static void budgetsAreTheCaps() {
        UsedUp x = Due.with("times a{spend 0;}times b{spend 0;}times c{spend 0;}");
        x.ordinary(1, 2, 3, 0);
        x.cap(0, 4);
        x.cap(1, 0);
        x.cap(2, 0);
        // CAPS that stand don't help: without any, the most is 15.
        due.is("CAPS of before are no help", x.budgets(12), 1);
        due.is("its CAP is the NEED", x.capped(0), 1);
        due.is("none elsewhere", x.capped(1), -1);
        due.is("none elsewhere too", x.capped(2), -1);
        due.is("one CAP", x.count(3), 1);
        due.is("two", x.budgets(8), 2);
        due.is("NEED of the first", x.capped(0), 1);
        due.is("NEED of the second", x.capped(1), 2);
        due.is("three", x.budgets(6), 3);
        due.is("NEED of the third", x.capped(2), 3);
        due.is("ORDINARY work is as it was", x.spends(0, 1, 2, 3, 0), 6);
        due.is("CAPS can be taken away", x.cap(2, -1), 3);
        due.is("two are left", x.count(3), 2);
    }

    // Promise 16: "-6 no PROGRAM, or not even with all (CAPS stay)"
    private static void budgetsThatFail() {
        UsedUp none = new UsedUp();
        due.is("no PROGRAM", none.budgets(0), -6);
        due.is("no PROGRAM, status", none.status(), -6);
        UsedUp x = Due.with("spend 1;times a{spend 0;}times b{spend 0;}");
        x.ordinary(1, 0, 0, 0);
        x.cap(1, 77);
        due.is("not even with all", x.budgets(1), -6);
        due.is("not even with all, status", x.status(), -6);
        due.is("no CAP comes", x.capped(0), -1);
        due.is("the CAP stays", x.capped(1), 77);
        due.is("just with all", x.budgets(2), 2);
        due.is("just with all, status", x.status(), 0);
        due.is("the NEED of one", x.capped(0), 1);
        due.is("the NEED of none", x.capped(1), 0);
    }

    // Promise 17: "1, 0; NONE of locks that can't be, or without a PROGRAM."
    private static void aheadOfEachTwo() {
        for (int l = 0; l < 8; l++) {
            for (int m = 0; m < 8; m++) {
                UsedUp x = Due.with("lock " + l + "{lock " + m + "{spend 1;}}");
                due.is("ahead " + l + " " + m, x.ahead(l, m), l == m ? 0 : 1);
                due.is("back " + l + " " + m, x.ahead(m, l), 0);
            }
        }
        UsedUp x = Due.with("spend 1;");
        due.is("no lock at all", x.ahead(0, 7), 0);
        due.is("the last lock that can be", x.ahead(7, 7), 0);
        due.is("the first that can't", x.ahead(8, 0), -1);
        due.is("the first that can't, behind", x.ahead(0, 8), -1);
        due.is("below the first", x.ahead(-1, 0), -1);
        due.is("below the first, behind", x.ahead(0, -1), -1);
        due.is("without a PROGRAM", new UsedUp().ahead(0, 7), -1);
    }

    // Promise 18: "0 without."
    private static void tangledWithout() {
        UsedUp x = new UsedUp();
        due.is("without a PROGRAM", x.tangled(), 0);
        Due.program(x, "spend 1;");
        due.is("without a lock", x.tangled(), 0);
        Due.program(x, "lock 0{lock 7{lock 0{spend 1;}}}");
        due.is("the first and the last", x.tangled(), 129);
        Due.program(x, "lock 0{lock 7{");
        due.is("a TEXT that can't be", x.tangled(), 129);
        Due.program(x, "lock 0{lock 7{spend 1;}}");
        due.is("of the PROGRAM of now", x.tangled(), 0);
        Due.program(x, "lock 7{lock 0{spend 1;}}");
        due.is("not with the one before", x.tangled(), 0);
    }

    // Promise 19: "0 PLACES, 1 STEPS, 2 ORDINARY asks, 3 CAPS, 4 bytes of the TAPE, 5 DEFS. NONE for others."
    private static void countOfEach() {
        UsedUp x = Due.with("def f{spend 1;}def g{call f;}def h{call g;}times a{times b{call h;}}if a<1{spend 1;}else{spend 2;}");
        x.ordinary(0, 0, 0, 0);
        x.ordinary(0, 0, 0, 0);
        x.ordinary(0, 0, 0, 0);
        x.ordinary(0, 0, 0, 0);
        x.cap(1, 0);
        x.feed(0, 0, 0, 0, 0);
        x.end(13);
        int[] want = {2, 9, 4, 1, 13, 3};
        for (int what = 0; what < 6; what++) {
            due.is("count " + what, x.count(what), want[what]);
        }
        due.is("count below", x.count(-1), -1);
        due.is("count above", x.count(6), -1);
        x.cap(1, 5);
        due.is("a CAP that is another is one still", x.count(3), 1);
        x.cap(1, -1);
        due.is("none", x.count(3), 0);
        UsedUp y = Due.with("def f{spend1;}def g{spend1;}def h{spend1;}def i{spend1;}def j{spend1;}def k{spend1;}" + EIGHT);
        due.is("the most PLACES", y.count(0), 8);
        due.is("STEPS of DEFS and PLACES", y.count(1), 22);
        due.is("the most DEFS", y.count(5), 6);
    }

    // Promise 20: "What the latest call of name, program, cap, worst, cheapest, ordinary, budgets was REFUSED by; 0 if it was not, or ahead of any."
    private static void statusOfEach() {
        UsedUp x = Due.with("times a{spend 1;}");
        for (int turn = 0; turn < 7; turn++) {
            x.cap(9, 9);
            due.is("refused, of cap", x.status(), -2);
            taken(x, turn);
            due.is("taken " + turn, x.status(), 0);
        }
        int[] by = {-1, -6, -1, -1, -1, -1, -1};
        for (int turn = 0; turn < 7; turn++) {
            x.name(0, 5, 1);
            due.is("taken, of name", x.status(), 0);
            refused(x, turn);
            due.is("refused " + turn, x.status(), by[turn]);
            due.is("refused " + turn + ", asked again", x.status(), by[turn]);
        }
    }

    private static void taken(UsedUp x, int turn) {
        switch (turn) {
            case 0 -> due.is("name", x.name(0, 5, 1), 0);
            case 1 -> {
                x.feed(0x7370656e, 0x64206120, 0x3b74696d, 0x65732061, 0x7b737065);
                x.feed(0x6e642061, 0x3b7d2020, BLANKS, BLANKS, BLANKS);
                due.is("program", x.program(), 1);
            }
            case 2 -> due.is("cap", x.cap(0, -1), -1);
            case 3 -> due.is("worst", x.worst(1, 0), 0);
            case 4 -> due.is("cheapest", x.cheapest(0, 0), 0);
            case 5 -> due.is("ordinary", x.ordinary(0, 0, 0, 0), 1);
            default -> due.is("budgets", x.budgets(MUCH), 0);
        }
    }

    private static void refused(UsedUp x, int turn) {
        switch (turn) {
            case 0 -> due.is("name", x.name(4, 5, 1), -1);
            case 1 -> due.is("program", x.program(), -6);
            case 2 -> due.is("cap", x.cap(0, -2), -1);
            case 3 -> due.is("worst", x.worst(0, -1), -1);
            case 4 -> due.is("cheapest", x.cheapest(2, 0), -1);
            case 5 -> due.is("ordinary", x.ordinary(0, 0, 0, -1), -1);
            default -> due.is("budgets", x.budgets(-1), -1);
        }
    }

    // "An object is used for at most 512 calls after it has been made": the last of them is as the first.
    private static void fiveHundredTwelveCalls() {
        UsedUp x = Due.with("times a{spend 1;}");
        // Due.with makes four calls: end, feed, end, program.
        for (int call = 5; call < 512; call++) {
            due.is("call " + call, x.worst(0, call % 6), 2L * (call % 6));
        }
        due.is("the 512th call", x.cheapest(0, 9), 5);
        UsedUp y = Due.with(EIGHT);
        for (int call = 11; call < 512; call++) {
            due.is("budgets as call " + call, y.budgets(call % 8 * 10), 8 - call % 8);
        }
        due.is("budgets as the 512th call", y.budgets(79), 1);
    }
}
