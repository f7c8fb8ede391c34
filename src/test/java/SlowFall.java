import java.math.BigInteger;
import java.util.ArrayList;
import java.util.Arrays;
import java.util.HashMap;
import java.util.List;
import java.util.Map;
import java.util.NoSuchElementException;

/**
 * The document once more, written the slow and plain way with the whole Java library, so that
 * random runs can be compared: recursion with a memory instead of tables, a tree instead of knots
 * in a row, and every answer worked out anew from what was told.
 */
final class SlowFall {
    private int n = 20;
    private final int[] tough = {0, 0, 0};
    private final int[] pieces = {2, 0, 0};
    private final int[] price = {1, 1, 1};
    private int f = 1;
    private int c = 0;
    private int[] weights = ones(20);
    private final List<Integer> tape = new ArrayList<>();
    private List<Line> plan = null;
    private int knots = 0;
    private int fault = 0;
    private int place = -1;
    private final List<int[]> notes = new ArrayList<>();
    private Hand hand = null;

    private static int[] ones(int n) {
        int[] w = new int[n + 1];
        Arrays.fill(w, 1);
        return w;
    }

    // ---- settings

    int feed(int a, int b, int c, int d, int e) {
        if (tape.size() + 20 > 400) return -1;
        for (int number : new int[] {a, b, c, d, e}) {
            for (int i = 3; i >= 0; i--) tape.add((number >> (8 * i)) & 0xff);
        }
        return tape.size();
    }

    boolean stair(int n) {
        if (n < 1 || n > 40) return false;
        this.n = n;
        weights = ones(n);
        notes.clear();
        hand = null;
        return true;
    }

    boolean kind(int k, int d, int p, int price) {
        if (k < 0 || k > 2 || Math.abs((long) d) > 9 || p < 0 || p > 4 || price < 0 || price > 99) return false;
        tough[k] = d;
        pieces[k] = p;
        this.price[k] = price;
        hand = null;
        return true;
    }

    boolean cost(int fall, int climb) {
        if (fall < 0 || fall > 99 || climb < 0 || climb > 9) return false;
        f = fall;
        c = climb;
        return true;
    }

    boolean weight(int t, int w) {
        if (t < 0 || t > n || w < 0 || w > 99) return false;
        weights[t] = w;
        return true;
    }

    int look(int k, int what) {
        if (k < 0 || k > 2) throw new IndexOutOfBoundsException();
        if (what < 0 || what > 2) throw new NoSuchElementException();
        return new int[][] {tough, pieces, price}[what][k];
    }

    int likely(int t) {
        return t < 0 || t > n ? -1 : weights[t];
    }

    int count(int what) {
        switch (what) {
            case 0: return n;
            case 1: return plan == null ? 0 : plan.size();
            case 2: return knots;
            case 3: return notes.size();
            case 4: return f;
            case 5: return c;
            case 6: return Arrays.stream(weights).sum();
            default: return -1;
        }
    }

    // ---- the plan's text

    private static final class Fault extends RuntimeException {
        private static final long serialVersionUID = 1L;
        final int what;
        final int place;

        Fault(int what, int place) {
            this.what = what;
            this.place = place;
        }
    }

    private static final class Failure extends RuntimeException {
        private static final long serialVersionUID = 1L;
    }

    private record Word(String text, int place) { }

    private record Node(String sign, Node left, Node right) { }

    private record Line(Node condition, int kind, Node number) { }

    private static final List<String> NAMES =
            List.of("low", "high", "span", "falls", "last", "broke", "one", "two", "three");

    private static final class Parser {
        final List<Word> words = new ArrayList<>();
        int at = 0;
        int knots = 0;
        int open = 0;

        Parser(String text) {
            int i = 0;
            while (i < text.length()) {
                char ch = text.charAt(i);
                int from = i;
                if (ch == ' ' || ch == '\n') {
                    i++;
                    continue;
                }
                if (ch >= 'a' && ch <= 'z') {
                    while (i < text.length() && text.charAt(i) >= 'a' && text.charAt(i) <= 'z') i++;
                } else if (ch >= '0' && ch <= '9') {
                    while (i < text.length() && text.charAt(i) >= '0' && text.charAt(i) <= '9') i++;
                } else if (text.startsWith("<=", i) || text.startsWith("<>", i) || text.startsWith(">=", i)) {
                    i += 2;
                } else {
                    i++;
                }
                words.add(new Word(text.substring(from, i), from));
            }
            words.add(new Word("", text.length()));
        }

        String peek() {
            return words.get(at).text;
        }

        Fault wrong() {
            return new Fault(1, words.get(at).place);
        }

        Fault much() {
            return new Fault(2, words.get(at).place);
        }

        boolean isNumber() {
            return peek().matches("[0-9]+");
        }

        void knot() {
            knots++;
            if (knots > 64) throw much();
        }

        List<Line> lines() {
            List<Line> lines = new ArrayList<>();
            while (!peek().isEmpty()) {
                if (!List.of("if", "fall", "stop").contains(peek())) throw wrong();
                if (lines.size() == 12) throw much();
                lines.add(line());
            }
            return lines;
        }

        Line line() {
            Node condition = null;
            if (peek().equals("if")) {
                at++;
                condition = either();
            }
            int kind = 3;
            if (peek().equals("fall")) {
                at++;
                if (!isNumber()) throw wrong();
                BigInteger k = new BigInteger(peek());
                if (k.compareTo(BigInteger.TWO) > 0) throw much();
                kind = k.intValue();
                at++;
            } else if (peek().equals("stop")) {
                at++;
            } else {
                throw wrong();
            }
            Node number = either();
            if (!peek().equals(";")) throw wrong();
            at++;
            return new Line(condition, kind, number);
        }

        Node chain(int level) {
            Node left = level == 0 ? both() : level == 1 ? turned() : level == 2 ? product() : operand();
            List<String> signs = level == 0 ? List.of("or") : level == 1 ? List.of("and")
                    : level == 2 ? List.of("+", "-") : List.of("*", "/");
            while (signs.contains(peek())) {
                String sign = peek();
                knot();
                at++;
                Node right = level == 0 ? both() : level == 1 ? turned() : level == 2 ? product() : operand();
                left = new Node(sign, left, right);
            }
            return left;
        }

        Node either() {
            return chain(0);
        }

        Node both() {
            return chain(1);
        }

        Node turned() {
            if (peek().equals("not")) {
                knot();
                at++;
                return new Node("not", turned(), null);
            }
            return comparison();
        }

        Node comparison() {
            Node left = chain(2);
            if (!List.of("<", "<=", "=", "<>", ">=", ">").contains(peek())) return left;
            String sign = peek();
            knot();
            at++;
            return new Node(sign, left, chain(2));
        }

        Node product() {
            return chain(3);
        }

        Node operand() {
            if (peek().equals("(")) {
                if (open == 8) throw much();
                open++;
                at++;
                Node inside = either();
                if (!peek().equals(")")) throw wrong();
                open--;
                at++;
                return inside;
            }
            if (isNumber()) {
                if (new BigInteger(peek()).compareTo(BigInteger.valueOf(999)) > 0) throw much();
            } else if (!NAMES.contains(peek())) {
                throw wrong();
            }
            knot();
            return new Node(words.get(at++).text, null, null);
        }
    }

    int plan(int size) {
        if (size < 0 || size > tape.size()) return -2;
        StringBuilder text = new StringBuilder();
        for (int i = 0; i < size; i++) text.append((char) (int) tape.get(i));
        tape.clear();
        try {
            Parser parser = new Parser(text.toString());
            List<Line> lines = parser.lines();
            plan = lines;
            knots = parser.knots;
            fault = 0;
            place = -1;
            return lines.size();
        } catch (Fault found) {
            fault = found.what;
            place = found.place;
            return -1;
        }
    }

    int fault(int what) {
        return what == 0 ? fault : what == 1 ? place : -1;
    }

    // ---- trials

    private record Drop(int kind, int step, boolean broke, int cost) { }

    /** What has been done with a strength; low, high and the rest are worked out from the falls. */
    private final class Hand {
        final int t;
        final List<Drop> drops = new ArrayList<>();

        Hand(int t) {
            this.t = t;
        }

        int low() {
            int low = 0;
            for (Drop d : drops) if (!d.broke) low = Math.max(low, d.step - tough[d.kind]);
            return low;
        }

        int high() {
            int high = n;
            for (Drop d : drops) if (d.broke) high = Math.min(high, d.step - tough[d.kind] - 1);
            return high;
        }

        int left(int kind) {
            int left = pieces[kind];
            for (Drop d : drops) if (d.broke && d.kind == kind) left--;
            return left;
        }

        int cost() {
            int sum = 0;
            for (Drop d : drops) sum += d.cost;
            return sum;
        }

        int broken() {
            int sum = 0;
            for (Drop d : drops) sum += d.broke ? 1 : 0;
            return sum;
        }

        boolean fall(int kind, int step) {
            boolean broke = !(step <= t + tough[kind]);
            drops.add(new Drop(kind, step, broke, f + c * step + (broke ? price[kind] : 0)));
            return broke;
        }
    }

    private BigInteger work(Node node, Hand now) {
        if (node.left == null) return leaf(node.sign, now);
        BigInteger a = work(node.left, now);
        if (node.sign.equals("not")) return truth(a.signum() == 0);
        BigInteger b = work(node.right, now);
        switch (node.sign) {
            case "or": return truth(a.signum() != 0 || b.signum() != 0);
            case "and": return truth(a.signum() != 0 && b.signum() != 0);
            case "<": return truth(a.compareTo(b) < 0);
            case "<=": return truth(a.compareTo(b) <= 0);
            case "=": return truth(a.equals(b));
            case "<>": return truth(!a.equals(b));
            case ">=": return truth(a.compareTo(b) >= 0);
            case ">": return truth(a.compareTo(b) > 0);
            case "+": return checked(a.add(b));
            case "-": return checked(a.subtract(b));
            case "*": return checked(a.multiply(b));
            default:
                if (b.signum() == 0) throw new Failure();
                return checked(a.divide(b));
        }
    }

    private static BigInteger truth(boolean holds) {
        return holds ? BigInteger.ONE : BigInteger.ZERO;
    }

    private static BigInteger checked(BigInteger value) {
        if (value.abs().compareTo(BigInteger.TEN.pow(12)) > 0) throw new Failure();
        return value;
    }

    private static BigInteger leaf(String word, Hand now) {
        Drop last = now.drops.isEmpty() ? null : now.drops.get(now.drops.size() - 1);
        switch (word) {
            case "low": return BigInteger.valueOf(now.low());
            case "high": return BigInteger.valueOf(now.high());
            case "span": return BigInteger.valueOf(now.high() - now.low());
            case "falls": return BigInteger.valueOf(now.drops.size());
            case "last": return BigInteger.valueOf(last == null ? 0 : last.step);
            case "broke": return truth(last != null && last.broke);
            case "one": return BigInteger.valueOf(now.left(0));
            case "two": return BigInteger.valueOf(now.left(1));
            case "three": return BigInteger.valueOf(now.left(2));
            default: return new BigInteger(word);
        }
    }

    private boolean holds(Line line, Hand now) {
        if (line.condition == null) return true;
        try {
            return work(line.condition, now).signum() != 0;
        } catch (Failure failed) {
            return false;
        }
    }

    private record Outcome(int ends, long says, Hand hand) { }

    private Outcome trial(int t) {
        Hand now = new Hand(t);
        while (now.low() < now.high()) {
            Line line = null;
            for (Line candidate : plan) {
                if (holds(candidate, now)) {
                    line = candidate;
                    break;
                }
            }
            if (line == null) return new Outcome(3, -1, now);
            long number;
            try {
                number = work(line.number, now).longValueExact();
            } catch (Failure failed) {
                return new Outcome(3, -1, now);
            }
            if (line.kind == 3) return new Outcome(number == t ? 1 : 2, number, now);
            if (number < 1 || number > n || now.left(line.kind) == 0 || now.drops.size() == 200) {
                return new Outcome(3, -1, now);
            }
            now.fall(line.kind, (int) number);
        }
        return new Outcome(0, t, now);
    }

    long tried(int t, int what) {
        if (plan == null) return -2;
        if (t < 0 || t > n || what < 0 || what > 4) return -1;
        Outcome o = trial(t);
        return new long[] {o.ends, o.hand.drops.size(), o.hand.broken(), o.hand.cost(), o.says}[what];
    }

    int fall(int t, int i, int what) {
        if (plan == null) return -2;
        if (t < 0 || t > n || what < 0 || what > 2) return -1;
        Outcome o = trial(t);
        if (i < 0 || i >= o.hand.drops.size()) return -1;
        Drop d = o.hand.drops.get(i);
        return new int[] {d.kind, d.step, d.broke ? 1 : 0}[what];
    }

    long judge(int what) {
        if (plan == null) return -2;
        if (what < 0 || what > 5) return -1;
        long[] sums = new long[6];
        for (int t = 0; t <= n; t++) {
            Outcome o = trial(t);
            long falls = o.hand.drops.size();
            long cost = o.hand.cost();
            sums[0] = Math.max(sums[0], falls);
            sums[1] = Math.max(sums[1], cost);
            sums[2] += weights[t] * falls;
            sums[3] += weights[t] * cost;
            sums[4] += o.ends == 2 ? weights[t] : 0;
            sums[5] += o.ends == 3 ? weights[t] : 0;
        }
        return sums[what];
    }

    // ---- best

    private static final long NEVER = Long.MAX_VALUE;

    private record Choice(long value, int kind, int step) { }

    private Choice choose(int law, int low, int high, int left, Map<Integer, Choice> known) {
        if (low == high) return new Choice(0, -1, -1);
        int key = (left * 41 + low) * 41 + high;
        Choice found = known.get(key);
        if (found != null) return found;
        found = new Choice(NEVER, -1, -1);
        int[] p = {left % 5, left / 5 % 5, left / 25};
        for (int k = 0; k < 3; k++) {
            if (p[k] == 0) continue;
            for (int s = 1; s <= n; s++) {
                int x = s - tough[k];
                if (x <= low || x > high) continue;
                Choice broken = choose(law, low, x - 1, left - new int[] {1, 5, 25}[k], known);
                Choice whole = choose(law, x, high, left, known);
                if (broken.value == NEVER || whole.value == NEVER) continue;
                long value = together(law, new int[] {low, x, high, s, k}, broken.value, whole.value);
                if (value < found.value) found = new Choice(value, k, s);
            }
        }
        known.put(key, found);
        return found;
    }

    private long together(int law, int[] at, long broken, long whole) {
        long fallen = f + (long) c * at[3];
        long dear = fallen + price[at[4]];
        switch (law) {
            case 0: return 1 + Math.max(broken, whole);
            case 1: return weightOf(at[0], at[2]) + broken + whole;
            case 2: return Math.max(dear + broken, fallen + whole);
            default:
                return weightOf(at[0], at[1] - 1) * dear + weightOf(at[1], at[2]) * fallen + broken + whole;
        }
    }

    private long weightOf(int from, int to) {
        long sum = 0;
        for (int t = from; t <= to; t++) sum += weights[t];
        return sum;
    }

    private int allLeft() {
        return pieces[0] + 5 * pieces[1] + 25 * pieces[2];
    }

    long best(int law) {
        if (law < 0 || law > 3) return -1;
        return next(law, 0, n, allLeft(), 0);
    }

    long next(int law, int low, int high, int left, int what) {
        if (law < 0 || law > 3 || low < 0 || low > high || high > n || left < 0 || left > 124
                || what < 0 || what > 2) return -1;
        Choice choice = choose(law, low, high, left, new HashMap<>());
        if (what == 0) return choice.value == NEVER ? -2 : choice.value;
        return what == 1 ? choice.kind : choice.step;
    }

    int edge(int kind, int law) {
        if (kind < 0 || kind > 2 || law < 0 || law > 3) return -1;
        Choice before = choose(law, 0, n, allLeft(), new HashMap<>());
        if (before.value == NEVER || before.kind == -1) return -2;
        int old = price[kind];
        int answer = 100;
        for (int p = old + 1; p <= 99 && answer == 100; p++) {
            price[kind] = p;
            Choice after = choose(law, 0, n, allLeft(), new HashMap<>());
            if (after.kind != before.kind || after.step != before.step) answer = p;
        }
        price[kind] = old;
        return answer;
    }

    // ---- weak, at once, lies

    int weak(int count, int w) {
        if (count < 1 || count > 4 || w < 0 || w > 3) return -1;
        long falls = worn(new int[] {0, n, count, 0}, w, new HashMap<>());
        return falls == NEVER ? -2 : (int) falls;
    }

    private long worn(int[] at, int w, Map<List<Integer>, Long> known) {
        int low = at[0];
        int high = at[1];
        int count = at[2];
        int fallen = at[3];
        if (low == high) return 0;
        if (count == 0) return NEVER;
        List<Integer> key = List.of(low, high, count, fallen);
        if (known.containsKey(key)) return known.get(key);
        long least = worn(new int[] {low, high, count - 1, 0}, w, known);
        for (int s = 1; s <= n; s++) {
            // the strengths with which it breaks are those below this one
            int x = s - tough[0] + w * fallen;
            if (x <= low || x > high) continue;
            long broken = worn(new int[] {low, x - 1, count - 1, 0}, w, known);
            long whole = worn(new int[] {x, high, count, fallen + 1}, w, known);
            if (broken != NEVER && whole != NEVER) least = Math.min(least, 1 + Math.max(broken, whole));
        }
        known.put(key, least);
        return least;
    }

    int rounds(int count, int b) {
        if (count < 1 || count > 9 || b < 1 || b > 4) return -1;
        return roundsFrom(n, count, b, new HashMap<>());
    }

    private int roundsFrom(int span, int count, int b, Map<Integer, Integer> known) {
        if (span == 0) return 0;
        if (count == 0) return 10000;
        int key = span * 10 + count;
        if (known.containsKey(key)) return known.get(key);
        int least = 10000;
        for (int falling = 1; falling <= Math.min(b, Math.min(count, span)); falling++) {
            least = Math.min(least, 1 + worstSplit(new int[] {span, count, b, falling}, 0, known));
        }
        known.put(key, least);
        return least;
    }

    /** The least worst case if the steps above 'from' are still to be chosen for so many pieces. */
    private int worstSplit(int[] game, int from, Map<Integer, Integer> known) {
        int falling = game[3];
        int stay = game[1] - falling;
        if (falling == 0) return roundsFrom(game[0] - from, game[1], game[2], known);
        int least = 10000;
        for (int step = from + 1; step <= game[0] - falling + 1; step++) {
            // the piece at this step breaks and so do those above it, the ones below stay whole
            int here = roundsFrom(step - 1 - from, stay, game[2], known);
            int above = worstSplit(new int[] {game[0], game[1], game[2], falling - 1}, step, known);
            least = Math.min(least, Math.max(here, above));
        }
        return least;
    }

    int lies(int steps, int most) {
        if (steps < 1 || steps > 7 || most < 0 || most > 2) return -1;
        StringBuilder state = new StringBuilder();
        for (int t = 0; t <= steps; t++) state.append('0');
        return lied(state.toString(), most, new HashMap<>());
    }

    /** The state says of each strength how many results would have lied; 'x' is too many. */
    private int lied(String state, int most, Map<String, Integer> known) {
        if (state.replace("x", "").length() <= 1) return 0;
        Integer found = known.get(state);
        if (found != null) return found;
        int least = 1000;
        for (int s = 1; s < state.length(); s++) {
            String whole = against(state, 0, s, most);
            String broke = against(state, s, state.length(), most);
            if (whole.equals(state) || broke.equals(state)) continue;
            least = Math.min(least, 1 + Math.max(lied(whole, most, known), lied(broke, most, known)));
        }
        known.put(state, least);
        return least;
    }

    private static String against(String state, int from, int to, int most) {
        char[] signs = state.toCharArray();
        for (int t = from; t < to; t++) {
            if (signs[t] != 'x') signs[t] = signs[t] - '0' == most ? 'x' : (char) (signs[t] + 1);
        }
        return new String(signs);
    }

    // ---- notes

    int note(int tester, int kind, int step, boolean broke) {
        if (tester < 0 || tester > 5 || kind < 0 || kind > 2 || step < 1 || step > n || notes.size() >= 40) return -1;
        notes.add(new int[] {tester, kind, step, broke ? 1 : 0});
        return notes.size() - 1;
    }

    int strike(int note) {
        if (note < 0 || note >= notes.size() || notes.size() >= 40) return -1;
        notes.add(new int[] {note});
        return notes.size() - 1;
    }

    private boolean[] counting() {
        boolean[] counts = new boolean[notes.size()];
        for (int i = notes.size() - 1; i >= 0; i--) {
            counts[i] = true;
            for (int j = i + 1; j < notes.size(); j++) {
                if (notes.get(j).length == 1 && notes.get(j)[0] == i && counts[j]) counts[i] = false;
            }
        }
        return counts;
    }

    private int wrong(int t, int tester) {
        boolean[] counts = counting();
        int wrong = 0;
        for (int i = 0; i < notes.size(); i++) {
            int[] told = notes.get(i);
            if (told.length == 1 || !counts[i] || tester >= 0 && told[0] != tester) continue;
            boolean whole = told[2] <= t + tough[told[1]];
            if (whole == (told[3] == 1)) wrong++;
        }
        return wrong;
    }

    private List<Integer> fits() {
        List<Integer> fits = new ArrayList<>();
        for (int t = 0; t <= n; t++) if (wrong(t, -1) == 0) fits.add(t);
        return fits;
    }

    int fitting(int k) {
        List<Integer> fits = fits();
        if (k == -1) return fits.size();
        return k < 0 || k >= fits.size() ? -1 : fits.get(k);
    }

    int doubt(int t) {
        return t < 0 || t > n ? -1 : wrong(t, -1);
    }

    int least(int what) {
        if (what < 0 || what > 1) return -1;
        int best = 1000;
        int at = -1;
        for (int t = n; t >= 0; t--) {
            if (wrong(t, -1) <= best) {
                best = wrong(t, -1);
                at = t;
            }
        }
        return what == 0 ? best : at;
    }

    int doubted(int tester) {
        return tester < 0 || tester > 5 ? -1 : wrong(least(1), tester);
    }

    int parts(int kind) {
        List<Integer> fits = fits();
        if (kind < 0 || kind > 2 || fits.isEmpty()) return -1;
        int best = Integer.MAX_VALUE;
        int at = -1;
        for (int s = n; s >= 1; s--) {
            int broken = 0;
            int whole = 0;
            for (int t : fits) {
                if (s <= t + tough[kind]) whole += weights[t];
                else broken += weights[t];
            }
            if (Math.abs(broken - whole) <= best) {
                best = Math.abs(broken - whole);
                at = s;
            }
        }
        return at;
    }

    // ---- by hand

    boolean begin(int seed) {
        int all = Arrays.stream(weights).sum();
        if (seed < 0 || all == 0) return false;
        BigInteger number = BigInteger.valueOf(seed).multiply(BigInteger.valueOf(1103515245))
                .add(BigInteger.valueOf(12345)).mod(BigInteger.ONE.shiftLeft(31));
        int share = number.divide(BigInteger.valueOf(65536)).mod(BigInteger.valueOf(all)).intValue();
        int t = 0;
        while (weightOf(0, t) <= share) t++;
        hand = new Hand(t);
        return true;
    }

    int drop(int kind, int step) {
        if (hand == null || kind < 0 || kind > 2 || step < 1 || step > n || hand.left(kind) == 0
                || hand.drops.size() >= 100) return -1;
        return hand.fall(kind, step) ? 2 : 1;
    }

    int back() {
        if (hand == null || hand.drops.isEmpty()) return -1;
        hand.drops.remove(hand.drops.size() - 1);
        return hand.drops.size();
    }

    int now(int what) {
        if (hand == null || what < 0 || what > 5) return -1;
        return new int[] {hand.low(), hand.high(), hand.drops.size(),
            hand.left(0) + 5 * hand.left(1) + 25 * hand.left(2), hand.cost(), hand.t}[what];
    }
}
