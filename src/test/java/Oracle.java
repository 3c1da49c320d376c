import java.math.BigInteger;
import java.util.ArrayList;
import java.util.HashMap;
import java.util.HashSet;
import java.util.List;
import java.util.Map;
import java.util.Set;

/**
 * The same promises once more, as another would write them: a tree, exact
 * numbers of any size, every call unfolded. OracleTest compares.
 */
final class Oracle {
    private static final BigInteger MUCH = BigInteger.valueOf(1000000000000L);

    private static final class Stop extends RuntimeException {
        private static final long serialVersionUID = 1L;
        final int place;

        Stop(int place) {
            super(null, null, false, false);
            this.place = place;
        }
    }

    private record Token(String text, int place) {
    }

    private static final class Node {
        String kind;
        List<List<String>> terms = new ArrayList<>();
        int number;
        int name;
        int place = -1;
        List<Node> callee;
        List<Node> then;
        List<Node> other;
    }

    private static final class Tree {
        List<List<Node>> defs = new ArrayList<>();
        List<Node> main;
        List<Node> places = new ArrayList<>();
        int steps;
    }

    private final StringBuilder tape = new StringBuilder();
    private Tree tree;
    private int[] caps = new int[0];
    private final int[] sizes = {5, 5, 5, 5};
    private final int[] weights = {1, 1, 1, 1};
    private final List<int[]> ordinaries = new ArrayList<>();
    private int[] latest;
    private int fault = -1;
    private int status;

    int name(int name, int size, int weight) {
        if (name < 0 || name > 3 || size < 0 || size > 5 || weight < 0 || weight > 9) {
            return status = -1;
        }
        sizes[name] = size;
        weights[name] = weight;
        return status = 0;
    }

    int feed(int a, int b, int c, int d, int e) {
        if (tape.length() > 380) {
            return -1;
        }
        for (int n : new int[] {a, b, c, d, e}) {
            for (byte one : java.nio.ByteBuffer.allocate(4).putInt(n).array()) {
                tape.append((char) Byte.toUnsignedInt(one));
            }
        }
        return tape.length();
    }

    int end(int n) {
        if (n < 0 || n > tape.length()) {
            return -1;
        }
        tape.setLength(n);
        return n;
    }

    // Reading: recursive descent that stops with the place of the token.

    private List<Token> tokens;
    private int next;
    private Tree built;
    private Map<String, List<Node>> known;

    int program() {
        String text = tape.toString();
        tape.setLength(0);
        try {
            tokens = split(text);
            next = 0;
            built = new Tree();
            known = new HashMap<>();
            while (peek().equals("def")) {
                next++;
                String letter = peek();
                expect(letter.matches("[f-k]") && !known.containsKey(letter));
                List<Node> body = braced(0);
                known.put(letter, body);
                built.defs.add(body);
            }
            built.main = block(0);
            expect(peek().isEmpty());
        } catch (Stop stop) {
            fault = stop.place;
            return status = -6;
        }
        tree = built;
        caps = new int[tree.places.size()];
        java.util.Arrays.fill(caps, -1);
        fault = -1;
        status = 0;
        return caps.length;
    }

    private static List<Token> split(String text) {
        List<Token> all = new ArrayList<>();
        java.util.regex.Matcher m = java.util.regex.Pattern.compile("[a-z]+|[0-9]+|[^ ]", java.util.regex.Pattern.DOTALL).matcher(text);
        while (m.find()) {
            all.add(new Token(m.group(), m.start()));
        }
        all.add(new Token("", text.length()));
        return all;
    }

    private String peek() {
        return tokens.get(next).text();
    }

    private String expect(boolean fits) {
        if (!fits) {
            throw new Stop(tokens.get(next).place());
        }
        String taken = peek();
        next = Math.min(next + 1, tokens.size() - 1);
        return taken;
    }

    private List<Node> braced(int open) {
        expect(peek().equals("{") && open < 8);
        List<Node> body = block(open + 1);
        expect(peek().equals("}"));
        return body;
    }

    private List<Node> block(int open) {
        List<Node> nodes = new ArrayList<>();
        do {
            nodes.add(step(open));
        } while (!peek().equals("}") && !peek().isEmpty());
        return nodes;
    }

    private Node step(int open) {
        Node node = new Node();
        boolean first = built.steps < 60 && Set.of("spend", "times", "hold", "lock", "call", "if").contains(peek());
        node.kind = expect(first && !(peek().equals("times") && built.places.size() == 8));
        built.steps++;
        switch (node.kind) {
            case "spend" -> {
                amount(node);
                expect(peek().equals(";"));
            }
            case "times" -> {
                node.place = built.places.size();
                built.places.add(node);
                amount(node);
                node.then = braced(open);
            }
            case "hold" -> {
                amount(node);
                node.then = braced(open);
            }
            case "lock" -> {
                node.number = number(7);
                node.then = braced(open);
            }
            case "call" -> {
                node.callee = known.get(expect(known.containsKey(peek())));
                expect(peek().equals(";"));
            }
            default -> {
                node.name = expect(peek().matches("[a-d]")).charAt(0) - 'a';
                expect(peek().equals("<"));
                node.number = number(1000);
                node.then = braced(open);
                if (peek().equals("else")) {
                    next++;
                    node.other = braced(open);
                }
            }
        }
        return node;
    }

    private boolean isNumber(int most) {
        return peek().matches("[0-9]+") && new BigInteger(peek()).compareTo(BigInteger.valueOf(most)) <= 0;
    }

    private int number(int most) {
        return new BigInteger(expect(isNumber(most))).intValue();
    }

    private void amount(Node node) {
        node.terms.add(term());
        while (peek().equals("+")) {
            next++;
            node.terms.add(term());
        }
    }

    private List<String> term() {
        List<String> factors = new ArrayList<>();
        factors.add(factor());
        while (peek().equals("*")) {
            next++;
            factors.add(factor());
        }
        return factors;
    }

    private String factor() {
        if (peek().equals("double")) {
            next++;
            return "2^" + expect(peek().matches("[a-d]"));
        }
        return expect(peek().matches("[a-d]") || isNumber(1000));
    }

    // Spending: exact, and cut to MUCH only where an answer is told or a choice is made.

    private static BigInteger amountOf(Node node, int[] ask) {
        BigInteger all = BigInteger.ZERO;
        for (List<String> term : node.terms) {
            BigInteger product = BigInteger.ONE;
            for (String factor : term) {
                BigInteger one;
                if (factor.startsWith("2^")) {
                    one = BigInteger.TWO.pow(ask[factor.charAt(2) - 'a']);
                } else if (Character.isDigit(factor.charAt(0))) {
                    one = new BigInteger(factor);
                } else {
                    one = BigInteger.valueOf(ask[factor.charAt(0) - 'a']);
                }
                product = product.multiply(one);
            }
            all = all.add(product);
        }
        return all;
    }

    private static BigInteger turns(Node node, int[] ask, int[] caps) {
        BigInteger amount = amountOf(node, ask);
        return caps[node.place] < 0 ? amount : amount.min(BigInteger.valueOf(caps[node.place]));
    }

    private static List<Node> taken(Node node, int[] ask) {
        if (!node.kind.equals("if") || ask[node.name] < node.number) {
            return node.then;
        }
        return node.other == null ? List.of() : node.other;
    }

    private static BigInteger time(List<Node> block, int[] ask, int[] caps) {
        BigInteger all = BigInteger.ZERO;
        for (Node node : block) {
            all = all.add(switch (node.kind) {
                case "spend" -> amountOf(node, ask);
                case "times" -> turns(node, ask, caps).multiply(time(node.then, ask, caps).add(BigInteger.ONE));
                case "call" -> time(node.callee, ask, caps).add(BigInteger.ONE);
                case "if" -> time(taken(node, ask), ask, caps).add(BigInteger.ONE);
                default -> time(node.then, ask, caps);
            });
        }
        return all;
    }

    private static BigInteger room(List<Node> block, int[] ask, int[] caps) {
        BigInteger most = BigInteger.ZERO;
        for (Node node : block) {
            most = most.max(switch (node.kind) {
                case "spend" -> BigInteger.ZERO;
                case "times" -> turns(node, ask, caps).signum() == 0 ? BigInteger.ZERO : room(node.then, ask, caps);
                case "hold" -> amountOf(node, ask).add(room(node.then, ask, caps));
                case "call" -> room(node.callee, ask, caps);
                default -> room(taken(node, ask), ask, caps);
            });
        }
        return most;
    }

    private void walk(List<Node> block, BigInteger often, int[] ask, BigInteger[] goes) {
        for (Node node : block) {
            switch (node.kind) {
                case "spend" -> {
                }
                case "times" -> {
                    BigInteger turns = turns(node, ask, caps);
                    BigInteger once = turns.multiply(time(node.then, ask, caps).add(BigInteger.ONE));
                    goes[node.place] = goes[node.place].add(once.multiply(often));
                    walk(node.then, often.multiply(turns), ask, goes);
                }
                case "call" -> walk(node.callee, often, ask, goes);
                default -> walk(taken(node, ask), often, ask, goes);
            }
        }
    }

    private static long told(BigInteger n) {
        return n.min(MUCH).longValueExact();
    }

    private long brings(int sort, int[] ask, int[] under) {
        return told(sort == 0 ? time(tree.main, ask, under) : room(tree.main, ask, under));
    }

    int fault() {
        return fault;
    }

    int cap(int place, int cap) {
        if (cap < -1 || cap > 1000000) {
            return status = -1;
        }
        if (place < 0 || place >= caps.length) {
            return status = -2;
        }
        int was = caps[place];
        caps[place] = cap;
        status = 0;
        return was;
    }

    int capped(int place) {
        return place < 0 || place >= caps.length ? -1 : caps[place];
    }

    private static boolean areNumbers(int... numbers) {
        for (int n : numbers) {
            if (n < 0 || n > 1000) {
                return false;
            }
        }
        return true;
    }

    long spends(int sort, int a, int b, int c, int d) {
        if (tree == null || sort < 0 || sort > 1 || !areNumbers(a, b, c, d)) {
            return -1;
        }
        return brings(sort, new int[] {a, b, c, d}, caps);
    }

    private List<int[]> asks() {
        List<int[]> all = new ArrayList<>();
        for (int a = 0; a <= sizes[0]; a++) {
            for (int b = 0; b <= sizes[1]; b++) {
                for (int c = 0; c <= sizes[2]; c++) {
                    for (int d = 0; d <= sizes[3]; d++) {
                        all.add(new int[] {a, b, c, d});
                    }
                }
            }
        }
        return all;
    }

    private int weight(int[] ask) {
        int weight = 0;
        for (int k = 0; k < 4; k++) {
            weight += ask[k] * weights[k];
        }
        return weight;
    }

    long worst(int sort, int w) {
        if (sort < 0 || sort > 1 || w < 0) {
            return status = -1;
        }
        if (tree == null) {
            return status = -6;
        }
        int[] best = null;
        long most = -1;
        for (int[] ask : asks()) {
            if (weight(ask) <= w) {
                long brought = brings(sort, ask, caps);
                if (best == null || brought > most || brought == most && weight(ask) < weight(best)) {
                    best = ask;
                    most = brought;
                }
            }
        }
        latest = best;
        status = 0;
        return most;
    }

    int cheapest(int sort, long s) {
        if (sort < 0 || sort > 1) {
            return status = -1;
        }
        int[] best = null;
        if (tree != null) {
            for (int[] ask : asks()) {
                if (brings(sort, ask, caps) >= s && (best == null || weight(ask) < weight(best))) {
                    best = ask;
                }
            }
        }
        if (best == null) {
            return status = -6;
        }
        latest = best;
        status = 0;
        return weight(best);
    }

    int ask(int k) {
        return latest == null || k < 0 || k > 3 ? -1 : latest[k];
    }

    long where(int place) {
        if (latest == null || place < 0 || place >= caps.length) {
            return -1;
        }
        BigInteger[] goes = new BigInteger[caps.length];
        java.util.Arrays.fill(goes, BigInteger.ZERO);
        walk(tree.main, BigInteger.ONE, latest, goes);
        return told(goes[place]);
    }

    int ordinary(int a, int b, int c, int d) {
        if (!areNumbers(a, b, c, d)) {
            return status = -1;
        }
        if (ordinaries.size() == 12) {
            return status = -5;
        }
        ordinaries.add(new int[] {a, b, c, d});
        status = 0;
        return ordinaries.size();
    }

    long need(int place) {
        if (place < 0 || place >= caps.length) {
            return -1;
        }
        long most = 0;
        for (int[] ask : ordinaries) {
            most = Math.max(most, told(amountOf(tree.places.get(place), ask)));
        }
        return most;
    }

    int budgets(long bound) {
        if (bound < 0) {
            return status = -1;
        }
        if (tree != null) {
            for (int many = 0; many <= caps.length; many++) {
                int[] found = choose(new ArrayList<>(), many, bound);
                if (found != null) {
                    caps = found;
                    status = 0;
                    return many;
                }
            }
        }
        return status = -6;
    }

    /** The rows of as many places in their order, the first that serves as caps. */
    private int[] choose(List<Integer> row, int many, long bound) {
        if (row.size() == many) {
            return serve(row, bound);
        }
        int from = row.isEmpty() ? 0 : row.get(row.size() - 1) + 1;
        for (int place = from; place < caps.length; place++) {
            row.add(place);
            int[] found = choose(row, many, bound);
            row.remove(row.size() - 1);
            if (found != null) {
                return found;
            }
        }
        return null;
    }

    private int[] serve(List<Integer> row, long bound) {
        int[] trial = new int[caps.length];
        java.util.Arrays.fill(trial, -1);
        for (int place : row) {
            long need = need(place);
            if (need > 1000000) {
                return null;
            }
            trial[place] = (int) need;
        }
        for (int[] ask : asks()) {
            if (brings(0, ask, trial) > bound) {
                return null;
            }
        }
        return trial;
    }

    private boolean[][] order() {
        boolean[][] ahead = new boolean[8][8];
        for (List<Node> def : tree.defs) {
            hold(def, new HashSet<>(), ahead);
        }
        hold(tree.main, new HashSet<>(), ahead);
        return ahead;
    }

    private static void hold(List<Node> block, Set<Integer> held, boolean[][] ahead) {
        for (Node node : block) {
            Set<Integer> within = held;
            if (node.kind.equals("lock")) {
                for (int l : held) {
                    ahead[l][node.number] |= l != node.number;
                }
                within = new HashSet<>(held);
                within.add(node.number);
            }
            for (List<Node> part : java.util.Arrays.asList(node.then, node.other, node.callee)) {
                if (part != null) {
                    hold(part, within, ahead);
                }
            }
        }
    }

    int ahead(int l, int m) {
        return tree == null || l < 0 || l > 7 || m < 0 || m > 7 ? -1 : order()[l][m] ? 1 : 0;
    }

    int tangled() {
        int bits = 0;
        if (tree != null) {
            boolean[][] ahead = order();
            for (int l = 0; l < 8; l++) {
                Set<Integer> seen = new HashSet<>();
                lead(l, ahead, seen);
                bits |= seen.contains(l) ? 1 << l : 0;
            }
        }
        return bits;
    }

    private static void lead(int from, boolean[][] ahead, Set<Integer> seen) {
        for (int m = 0; m < 8; m++) {
            if (ahead[from][m] && seen.add(m)) {
                lead(m, ahead, seen);
            }
        }
    }

    int count(int what) {
        return switch (what) {
            case 0 -> caps.length;
            case 1 -> tree == null ? 0 : tree.steps;
            case 2 -> ordinaries.size();
            case 3 -> (int) java.util.Arrays.stream(caps).filter(c -> c >= 0).count();
            case 4 -> tape.length();
            case 5 -> tree == null ? 0 : tree.defs.size();
            default -> -1;
        };
    }

    int status() {
        return status;
    }
}
