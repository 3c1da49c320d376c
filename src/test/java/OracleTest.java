import java.util.Random;

/** Random runs of calls, the same on the class and on the oracle; the seeds are fixed. */
public final class OracleTest {
    private static final Due due = new Due();
    private static final String[] HEADS = {"spend", "times", "hold", "lock", "call", "if", "else", "def", "double",
        "{", "}", ";", "<", "+", "*", "a", "b", "c", "d", "e", "f", "g", "k", "l", "0", "1", "7", "8", "1000", "1001", " ", "%"};

    private final Random random;
    private final StringBuilder log = new StringBuilder();
    private UsedUp x = new UsedUp();
    private Oracle o = new Oracle();
    private int timesLeft;
    private int defs;

    private OracleTest(long seed) {
        random = new Random(seed);
        log.append("seed ").append(seed);
    }

    public static void main(String[] args) {
        int runs = args.length > 0 ? Integer.parseInt(args[0]) : 400;
        long first = args.length > 1 ? Long.parseLong(args[1]) : 1;
        for (long seed = first; seed < first + runs && !due.hasWrong(); seed++) {
            new OracleTest(seed).run();
        }
        due.finish();
    }

    private int upTo(int most) {
        return random.nextInt(most + 1);
    }

    private boolean in(int chances) {
        return random.nextInt(chances) == 0;
    }

    private void same(String call, long got, long want) {
        log.append("\n  ").append(call).append(" = ").append(got);
        due.is(call, got, want);
        if (got != want) {
            System.out.println(log);
        }
    }

    private void run() {
        int calls = 40 + upTo(60);
        if (!in(10)) {
            putProgram();
        }
        for (int i = 0; i < calls && !due.hasWrong(); i++) {
            call();
        }
    }

    private void putProgram() {
        String text = wholeText();
        if (in(4)) {
            text = spoiled(text);
        }
        if (text.length() > 400) {
            text = text.substring(0, 400);
        }
        log.append("\n  text: ").append(text);
        int[] r = Due.rows(text);
        x.end(0);
        o.end(0);
        for (int i = 0; i < r.length; i += 5) {
            same("feed", x.feed(r[i], r[i + 1], r[i + 2], r[i + 3], r[i + 4]), o.feed(r[i], r[i + 1], r[i + 2], r[i + 3], r[i + 4]));
        }
        same("end", x.end(text.length()), o.end(text.length()));
        same("program()", x.program(), o.program());
        same("fault()", x.fault(), o.fault());
        same("status()", x.status(), o.status());
        for (int what = 0; what <= 5; what++) {
            same("count(" + what + ")", x.count(what), o.count(what));
        }
        for (int l = 0; l < 8; l++) {
            for (int m = 0; m < 8; m++) {
                same("ahead(" + l + ", " + m + ")", x.ahead(l, m), o.ahead(l, m));
            }
        }
        same("tangled()", x.tangled(), o.tangled());
    }

    private String spoiled(String text) {
        StringBuilder all = new StringBuilder(text);
        for (int n = upTo(2); n >= 0; n--) {
            int at = upTo(all.length());
            switch (upTo(4)) {
                case 0 -> all.insert(at, HEADS[random.nextInt(HEADS.length)]);
                case 1 -> all.insert(at, (char) upTo(255));
                case 2 -> all.delete(at, Math.min(all.length(), at + 1 + upTo(3)));
                case 3 -> all.setLength(at);
                default -> {
                    if (at < all.length()) {
                        all.setCharAt(at, (char) (32 + upTo(94)));
                    }
                }
            }
        }
        return all.toString();
    }

    private String wholeText() {
        for (int tries = 0; tries < 200; tries++) {
            StringBuilder text = new StringBuilder();
            timesLeft = in(20) ? 9 : 8;
            defs = 0;
            int wanted = upTo(3);
            for (int i = 0; i < wanted; i++) {
                text.append("def ").append((char) ('f' + i)).append("{");
                block(text, 1);
                text.append("}");
                defs++;
            }
            block(text, 0);
            if (text.length() <= 400) {
                return text.toString();
            }
        }
        return "spend 1;";
    }

    private void blank(StringBuilder text) {
        if (in(6)) {
            text.append("  ".substring(upTo(1)));
        }
    }

    private void block(StringBuilder text, int open) {
        int most = open == 0 ? 5 : 2;
        for (int n = upTo(most); n >= 0; n--) {
            step(text, open);
            blank(text);
        }
    }

    private void step(StringBuilder text, int open) {
        int kind = open >= 8 && !in(10) || text.length() > 340 ? 0 : upTo(7);
        if ((kind == 1 || kind == 6) && timesLeft == 0 || kind == 4 && defs == 0) {
            kind = 0;
        }
        switch (kind) {
            case 1, 6 -> {
                timesLeft--;
                text.append("times ");
                amount(text);
                body(text, open);
            }
            case 2 -> {
                text.append("hold ");
                amount(text);
                body(text, open);
            }
            case 3, 7 -> {
                text.append("lock ").append(upTo(in(3) ? 7 : 3));
                body(text, open);
            }
            case 4 -> text.append("call ").append((char) ('f' + upTo(defs - 1))).append(";");
            case 5 -> {
                text.append("if ").append((char) ('a' + upTo(3))).append("<").append(upTo(6));
                body(text, open);
                if (in(2)) {
                    text.append("else");
                    body(text, open);
                }
            }
            default -> {
                text.append("spend ");
                amount(text);
                text.append(";");
            }
        }
    }

    private void body(StringBuilder text, int open) {
        blank(text);
        text.append("{");
        block(text, open + 1);
        text.append("}");
    }

    private void amount(StringBuilder text) {
        factor(text);
        while (in(3)) {
            text.append(in(2) ? "+" : "*");
            factor(text);
        }
    }

    private void factor(StringBuilder text) {
        switch (upTo(4)) {
            case 0 -> text.append(in(5) ? 1000 : upTo(9));
            case 1 -> text.append("double ").append((char) ('a' + upTo(3)));
            default -> text.append((char) ('a' + upTo(3)));
        }
    }

    private int number() {
        return in(12) ? 990 + upTo(20) : in(20) ? -upTo(3) : in(6) ? upTo(60) : upTo(6);
    }

    private int sort() {
        return in(25) ? upTo(4) - 2 : upTo(1);
    }

    private int place() {
        return in(15) ? upTo(12) - 2 : upTo(Math.max(x.count(0) - 1, 0));
    }

    private long bound(boolean near) {
        if (in(20)) {
            return -upTo(2);
        }
        if (in(15)) {
            return UsedUp.MUCH + upTo(2) - 1;
        }
        long all = Math.max(o.spends(near ? 0 : upTo(1), upTo(5), upTo(5), upTo(5), upTo(5)), 0);
        return Math.max(all + upTo(4) - 2, 0);
    }

    private void call() {
        switch (upTo(13)) {
            case 0 -> {
                int k = in(10) ? upTo(6) - 1 : upTo(3);
                int size = in(10) ? upTo(8) - 1 : upTo(3);
                int weight = in(10) ? upTo(12) - 1 : upTo(9);
                same("name(" + k + ", " + size + ", " + weight + ")", x.name(k, size, weight), o.name(k, size, weight));
            }
            case 1 -> {
                int cap = in(10) ? 999998 + upTo(4) : upTo(8) - 2;
                int place = place();
                same("cap(" + place + ", " + cap + ")", x.cap(place, cap), o.cap(place, cap));
            }
            case 2 -> {
                int place = place();
                same("capped(" + place + ")", x.capped(place), o.capped(place));
            }
            case 3, 4 -> {
                int sort = sort();
                int[] n = {number(), number(), number(), number()};
                same("spends(" + sort + ", " + n[0] + ", " + n[1] + ", " + n[2] + ", " + n[3] + ")",
                    x.spends(sort, n[0], n[1], n[2], n[3]), o.spends(sort, n[0], n[1], n[2], n[3]));
            }
            case 5, 6 -> {
                int sort = sort();
                int w = in(10) ? -upTo(2) : upTo(in(2) ? 180 : 20);
                same("worst(" + sort + ", " + w + ")", x.worst(sort, w), o.worst(sort, w));
                wheres();
            }
            case 7, 8 -> {
                int sort = sort();
                long s = bound(false);
                same("cheapest(" + sort + ", " + s + ")", x.cheapest(sort, s), o.cheapest(sort, s));
                wheres();
            }
            case 9 -> {
                int[] n = {number(), number(), number(), number()};
                same("ordinary(" + n[0] + ", " + n[1] + ", " + n[2] + ", " + n[3] + ")",
                    x.ordinary(n[0], n[1], n[2], n[3]), o.ordinary(n[0], n[1], n[2], n[3]));
                for (int place = -1; place <= 8; place++) {
                    same("need(" + place + ")", x.need(place), o.need(place));
                }
            }
            case 10 -> {
                if (in(3)) {
                    budgets();
                }
            }
            case 11 -> {
                int[] n = {random.nextInt(), random.nextInt(), random.nextInt(), random.nextInt(), random.nextInt()};
                same("feed", x.feed(n[0], n[1], n[2], n[3], n[4]), o.feed(n[0], n[1], n[2], n[3], n[4]));
                int cut = upTo(30) - 2;
                same("end(" + cut + ")", x.end(cut), o.end(cut));
            }
            case 12 -> {
                if (in(4)) {
                    putProgram();
                }
            }
            default -> {
                int what = upTo(8) - 1;
                same("count(" + what + ")", x.count(what), o.count(what));
            }
        }
        same("status()", x.status(), o.status());
    }

    private void wheres() {
        for (int k = -1; k <= 4; k++) {
            same("ask(" + k + ")", x.ask(k), o.ask(k));
        }
        for (int place = -1; place <= 8; place++) {
            same("where(" + place + ")", x.where(place), o.where(place));
        }
    }

    private void budgets() {
        // The oracle tries every choice with every ask, so it is asked about few asks.
        for (int k = 0; k < 4; k++) {
            int size = upTo(in(4) ? 4 : 2);
            same("name(" + k + ", " + size + ", 1)", x.name(k, size, 1), o.name(k, size, 1));
        }
        long bound = bound(true);
        same("budgets(" + bound + ")", x.budgets(bound), o.budgets(bound));
        for (int place = 0; place < 8; place++) {
            same("capped(" + place + ")", x.capped(place), o.capped(place));
        }
        same("count(3)", x.count(3), o.count(3));
    }
}
