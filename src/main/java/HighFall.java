import java.util.Arrays;
import java.util.NoSuchElementException;

/**
 * Things of which few may be broken, let fall from the steps of a stair till it is known from how
 * high they stay whole.
 */
public final class HighFall {
    public static final int NONE = -1;
    public static final long NEVER = -2L;

    private static final int REFUSED = -2;
    private static final int KINDS = 3;
    private static final int TESTERS = 6;
    private static final int LAWS = 4;
    private static final int MOST_STEPS = 40;
    private static final int FIRST_STEPS = 20;
    private static final int MOST_TOUGH = 9;
    private static final int MOST_PIECES = 4;
    private static final int MOST_PRICE = 99;
    private static final int MOST_CLIMB = 9;
    private static final int MOST_WEIGHT = 99;
    private static final int MOST_WEAK = 3;
    private static final int MOST_IN_STOCK = 9;
    private static final int MOST_AT_ONCE = 4;
    private static final int MOST_LIES = 2;
    private static final int MOST_LIED_STEPS = 7;
    private static final int LEFT_CODES = 125;
    private static final int SPANS = 861;
    private static final int TAPE_ROOM = 400;
    private static final int FEED_BYTES = 20;
    private static final int MOST_PLAN_FALLS = 200;
    private static final int MOST_HAND_FALLS = 100;
    /** Stands for NEVER inside the tables: two of them and all costs together still fit an int. */
    private static final int ENDLESS = 1000000000;

    private final Stair stair = new Stair();
    private final int[] tape = new int[TAPE_ROOM];
    private int taped = 0;
    private final PlanReader reader = new PlanReader();
    private Plan planNow = new Plan();
    private Plan planSpare = new Plan();
    private boolean planned = false;
    private final PlanTrial planTrial = new PlanTrial();
    private final BestTable bestTable = new BestTable();
    private final WeakTable weakTable = new WeakTable();
    /** How many strengths some rounds can part, with each number of pieces. */
    private final int[] parted = new int[MOST_IN_STOCK + 1];
    private final LieTable lieTable = new LieTable();
    private final NoteBook notes = new NoteBook();
    private final Course hand = new Course(MOST_HAND_FALLS);
    private boolean handOn = false;

    public HighFall() {
    }

    public int feed(int a, int b, int c, int d, int e) {
        if (taped + FEED_BYTES > TAPE_ROOM) {
            return NONE;
        }
        putBytes(a);
        putBytes(b);
        putBytes(c);
        putBytes(d);
        putBytes(e);
        return taped;
    }

    public boolean stair(int n) {
        if (n < 1 || n > MOST_STEPS) {
            return false;
        }
        stair.renew(n);
        notes.clear();
        handOn = false;
        return true;
    }

    public boolean kind(int kind, int tough, int pieces, int price) {
        if (!stair.hasKind(kind) || tough < -MOST_TOUGH || tough > MOST_TOUGH
                || !isWithin(pieces, MOST_PIECES) || !isWithin(price, MOST_PRICE)) {
            return false;
        }
        stair.setKind(kind, tough, pieces, price);
        handOn = false;
        return true;
    }

    public boolean cost(int fall, int climb) {
        if (!isWithin(fall, MOST_PRICE) || !isWithin(climb, MOST_CLIMB)) {
            return false;
        }
        stair.setCosts(fall, climb);
        return true;
    }

    public boolean weight(int t, int weight) {
        if (!stair.hasStrength(t) || !isWithin(weight, MOST_WEIGHT)) {
            return false;
        }
        stair.setWeight(t, weight);
        return true;
    }

    public int look(int kind, int what) throws IndexOutOfBoundsException, NoSuchElementException {
        if (!stair.hasKind(kind)) {
            throw new IndexOutOfBoundsException("no such kind");
        }
        switch (what) {
            case 0:
                return stair.tough[kind];
            case 1:
                return stair.pieces[kind];
            case 2:
                return stair.price[kind];
            default:
                throw new NoSuchElementException("no such what");
        }
    }

    public int likely(int t) {
        return stair.hasStrength(t) ? stair.weight[t] : NONE;
    }

    public int plan(int n) {
        if (n < 0 || n > taped) {
            return REFUSED;
        }
        reader.read(tape, n, planSpare);
        taped = 0;
        if (reader.fault != 0) {
            return NONE;
        }
        Plan old = planNow;
        planNow = planSpare;
        planSpare = old;
        planned = true;
        return planNow.lines;
    }

    public int fault(int what) {
        switch (what) {
            case 0:
                return reader.fault;
            case 1:
                return reader.place;
            default:
                return NONE;
        }
    }

    public long tried(int t, int what) {
        if (!planned) {
            return REFUSED;
        }
        if (!stair.hasStrength(t) || !isWithin(what, 4)) {
            return NONE;
        }
        planTrial.run(stair, planNow, t);
        switch (what) {
            case 0:
                return planTrial.ends;
            case 1:
                return planTrial.course.falls;
            case 2:
                return planTrial.course.broken;
            case 3:
                return planTrial.course.cost;
            default:
                return planTrial.says;
        }
    }

    public int fall(int t, int i, int what) {
        if (!planned) {
            return REFUSED;
        }
        if (!stair.hasStrength(t) || i < 0 || !isWithin(what, 2)) {
            return NONE;
        }
        planTrial.run(stair, planNow, t);
        return planTrial.course.recall(i, what);
    }

    public long judge(int what) {
        if (!planned) {
            return REFUSED;
        }
        if (!isWithin(what, 5)) {
            return NONE;
        }
        long answer = 0;
        for (int t = 0; t <= stair.steps; t++) {
            planTrial.run(stair, planNow, t);
            long share = planTrial.shareOf(what, stair.weight[t]);
            answer = what < 2 ? Math.max(answer, share) : answer + share;
        }
        return answer;
    }

    public long best(int law) {
        if (!isWithin(law, LAWS - 1)) {
            return NONE;
        }
        bestTable.prepare(stair, law);
        return bestTable.valueOf(0, stair.steps, stair.allPieces());
    }

    public long next(int law, int low, int high, int left, int what) {
        if (!isWithin(law, LAWS - 1) || low < 0 || low > high || high > stair.steps
                || !isWithin(left, LEFT_CODES - 1) || !isWithin(what, 2)) {
            return NONE;
        }
        bestTable.prepare(stair, law);
        long value = bestTable.valueOf(low, high, left);
        switch (what) {
            case 0:
                return value;
            case 1:
                return bestTable.firstKind;
            default:
                return bestTable.firstStep;
        }
    }

    public int edge(int kind, int law) {
        if (!stair.hasKind(kind) || !isWithin(law, LAWS - 1)) {
            return NONE;
        }
        bestTable.prepare(stair, law);
        if (bestTable.valueOf(0, stair.steps, stair.allPieces()) < 0 || bestTable.firstKind == NONE) {
            return REFUSED;
        }
        // falls alone cost the same with every price
        if (law < 2 || stair.pieces[kind] == 0) {
            return MOST_PRICE + 1;
        }
        return bestTable.edgeOf(kind, stair.allPieces());
    }

    public int weak(int n, int w) {
        if (n < 1 || n > MOST_PIECES || !isWithin(w, MOST_WEAK)) {
            return NONE;
        }
        return weakTable.fewestFalls(stair, n, w);
    }

    public int rounds(int n, int b) {
        if (n < 1 || n > MOST_IN_STOCK || b < 1 || b > MOST_AT_ONCE) {
            return NONE;
        }
        Arrays.fill(parted, 1);
        int rounds = 0;
        // each round parts at least one strength more
        while (rounds < stair.steps && parted[n] <= stair.steps) {
            addRound(n, b);
            rounds++;
        }
        return rounds;
    }

    public int lies(int n, int lies) {
        if (n < 1 || n > MOST_LIED_STEPS || !isWithin(lies, MOST_LIES)) {
            return NONE;
        }
        return lieTable.fewestFalls(n, lies);
    }

    public int note(int tester, int kind, int step, boolean broke) {
        if (!isWithin(tester, TESTERS - 1) || !stair.hasKind(kind) || !stair.hasStep(step)) {
            return NONE;
        }
        return notes.write(tester, kind, step, broke);
    }

    public int strike(int note) {
        return notes.writeStrike(note);
    }

    public int fitting(int k) {
        int found = 0;
        for (int t = 0; t <= stair.steps; t++) {
            if (notes.wrongAt(stair, t) == 0) {
                if (found == k) {
                    return t;
                }
                found++;
            }
        }
        return k == NONE ? found : NONE;
    }

    public int doubt(int t) {
        return stair.hasStrength(t) ? notes.wrongAt(stair, t) : NONE;
    }

    public int least(int what) {
        if (!isWithin(what, 1)) {
            return NONE;
        }
        int t = notes.leastDoubted(stair);
        return what == 0 ? notes.wrongAt(stair, t) : t;
    }

    public int doubted(int tester) {
        if (!isWithin(tester, TESTERS - 1)) {
            return NONE;
        }
        return notes.wrongBy(tester, stair, notes.leastDoubted(stair));
    }

    public int parts(int kind) {
        return stair.hasKind(kind) ? notes.partingStep(stair, kind) : NONE;
    }

    public boolean begin(int seed) {
        int all = stair.allWeights();
        if (seed < 0 || all <= 0) {
            return false;
        }
        long number = (seed * 1103515245L + 12345L) & 0x7fffffffL;
        hand.start(stair, stair.strengthBehind((int) (number / 65536 % all)));
        handOn = true;
        return true;
    }

    public int drop(int kind, int step) {
        if (!handOn || !hand.canFall(stair, kind, step)) {
            return NONE;
        }
        return hand.letFall(stair, kind, step) ? 2 : 1;
    }

    public int back() {
        if (!handOn || hand.falls == 0) {
            return NONE;
        }
        hand.takeBack();
        return hand.falls;
    }

    public int now(int what) {
        if (!handOn) {
            return NONE;
        }
        switch (what) {
            case 0:
                return hand.low;
            case 1:
                return hand.high;
            case 2:
                return hand.falls;
            case 3:
                return hand.leftCode();
            case 4:
                return hand.cost;
            case 5:
                return hand.strength;
            default:
                return NONE;
        }
    }

    public int count(int what) {
        switch (what) {
            case 0:
                return stair.steps;
            case 1:
                return planNow.lines;
            case 2:
                return planNow.knots;
            case 3:
                return notes.size;
            case 4:
                return stair.fallCost;
            case 5:
                return stair.climbCost;
            case 6:
                return stair.allWeights();
            default:
                return NONE;
        }
    }

    private void putBytes(int number) {
        for (int shift = 24; shift >= 0; shift -= 8) {
            if (taped < TAPE_ROOM) {
                tape[taped] = (number >>> shift) & 255;
                taped++;
            }
        }
    }

    /** A round parts as many spans as pieces fall and one: in each some of them are broken. */
    private void addRound(int pieces, int atOnce) {
        for (int stock = pieces; stock >= 1; stock--) {
            int sum = 0;
            for (int broken = 0; broken <= Math.min(atOnce, stock); broken++) {
                sum += parted[stock - broken];
            }
            parted[stock] = Math.min(sum, stair.steps + 1);
        }
    }

    private static boolean isWithin(int number, int most) {
        return number >= 0 && number <= most;
    }

    /** The worth of one piece of a kind in a code of pieces left. */
    private static int unitOf(int kind) {
        return kind == 0 ? 1 : kind == 1 ? 5 : 25;
    }

    /** The spans of one high lie in a row, so that a table runs through its lows alone. */
    private static int spanAt(int low, int high) {
        return high * (high + 1) / 2 + low;
    }

    /** The stair, its kinds, costs and weights as they are now. */
    private static final class Stair {
        int steps = FIRST_STEPS;
        final int[] tough = new int[KINDS];
        final int[] pieces = {2, 0, 0};
        final int[] price = {1, 1, 1};
        int fallCost = 1;
        int climbCost = 0;
        final int[] weight = new int[MOST_STEPS + 1];
        /** Grows with each change, so that a table knows when it is stale. */
        int changes = 0;

        Stair() {
            Arrays.fill(weight, 1);
        }

        void renew(int n) {
            steps = n;
            Arrays.fill(weight, 1);
            changes++;
        }

        void setKind(int kind, int toughness, int stock, int worth) {
            tough[kind] = toughness;
            pieces[kind] = stock;
            price[kind] = worth;
            changes++;
        }

        void setCosts(int ofFall, int ofClimb) {
            fallCost = ofFall;
            climbCost = ofClimb;
            changes++;
        }

        void setWeight(int t, int share) {
            weight[t] = share;
            changes++;
        }

        boolean hasKind(int kind) {
            return kind >= 0 && kind < KINDS;
        }

        boolean hasStep(int step) {
            return step >= 1 && step <= steps;
        }

        boolean hasStrength(int t) {
            return t >= 0 && t <= steps;
        }

        boolean breaks(int kind, int step, int t) {
            return step > t + tough[kind];
        }

        int costOf(int kind, int step, boolean broke) {
            return fallCost + climbCost * step + (broke ? price[kind] : 0);
        }

        int allPieces() {
            return pieces[0] + 5 * pieces[1] + 25 * pieces[2];
        }

        int allWeights() {
            int sum = 0;
            for (int t = 0; t <= steps; t++) {
                sum += weight[t];
            }
            return sum;
        }

        /** The first strength up to which the weights together are more than the share. */
        int strengthBehind(int share) {
            int sum = 0;
            for (int t = 0; t <= steps; t++) {
                sum += weight[t];
                if (sum > share) {
                    return t;
                }
            }
            return steps;
        }
    }

    /** What a trial has done so far, by a plan or by hand, with what each fall found before it. */
    private static final class Course {
        final int room;
        final int[] kinds;
        final int[] steps;
        final int[] broke;
        final int[] lows;
        final int[] highs;
        final int[] costs;
        final int[] left = new int[KINDS];
        int strength = 0;
        int low = 0;
        int high = 0;
        int falls = 0;
        int broken = 0;
        int cost = 0;

        Course(int mostFalls) {
            room = mostFalls;
            kinds = new int[mostFalls];
            steps = new int[mostFalls];
            broke = new int[mostFalls];
            lows = new int[mostFalls];
            highs = new int[mostFalls];
            costs = new int[mostFalls];
        }

        void start(Stair stair, int t) {
            for (int kind = 0; kind < KINDS; kind++) {
                left[kind] = stair.pieces[kind];
            }
            strength = t;
            low = 0;
            high = stair.steps;
            falls = 0;
            broken = 0;
            cost = 0;
        }

        boolean canFall(Stair stair, int kind, int step) {
            return stair.hasKind(kind) && stair.hasStep(step) && left[kind] > 0 && falls < room;
        }

        /** Whether it broke; to be asked only where canFall says so. */
        boolean letFall(Stair stair, int kind, int step) {
            boolean breaks = stair.breaks(kind, step, strength);
            kinds[falls] = kind;
            steps[falls] = step;
            broke[falls] = breaks ? 1 : 0;
            lows[falls] = low;
            highs[falls] = high;
            costs[falls] = cost;
            falls++;
            int reached = step - stair.tough[kind];
            if (breaks) {
                high = Math.min(high, reached - 1);
                left[kind]--;
                broken++;
            } else {
                low = Math.max(low, reached);
            }
            cost += stair.costOf(kind, step, breaks);
            return breaks;
        }

        void takeBack() {
            if (falls > 0) {
                falls--;
                low = lows[falls];
                high = highs[falls];
                cost = costs[falls];
                left[kinds[falls]] += broke[falls];
                broken -= broke[falls];
            }
        }

        int recall(int i, int what) {
            if (i < 0 || i >= falls) {
                return NONE;
            }
            return what == 0 ? kinds[i] : what == 1 ? steps[i] : broke[i];
        }

        int leftCode() {
            return left[0] + 5 * left[1] + 25 * left[2];
        }

        int lastStep() {
            return falls > 0 ? steps[falls - 1] : 0;
        }

        int lastBroke() {
            return falls > 0 ? broke[falls - 1] : 0;
        }
    }

    /** What tokens there are, and the one at which the reading of a text stands. */
    private static final class Token {
        static final int END = 0;
        static final int BAD = 1;
        static final int NUMBER = 2;
        static final int OPEN = 3;
        static final int CLOSE = 4;
        static final int SEMICOLON = 5;
        static final int IF = 6;
        static final int FALL = 7;
        static final int STOP = 8;
        static final int NOT = 9;
        static final int OR = 10;
        static final int AND = 11;
        static final int LOW = 12;
        static final int HIGH = 13;
        static final int SPAN = 14;
        static final int FALLS = 15;
        static final int LAST = 16;
        static final int BROKE = 17;
        static final int ONE = 18;
        static final int TWO = 19;
        static final int THREE = 20;
        static final int LESS = 21;
        static final int LESS_OR_SAME = 22;
        static final int SAME = 23;
        static final int OTHER = 24;
        static final int MORE_OR_SAME = 25;
        static final int MORE = 26;
        static final int PLUS = 27;
        static final int MINUS = 28;
        static final int TIMES = 29;
        static final int OVER = 30;
        static final int BEYOND = 1000;

        private int[] text = new int[0];
        private int length = 0;
        private int at = 0;
        int token = END;
        int place = 0;
        /** Of a number; all that are beyond 999 are one. */
        int value = 0;

        void open(int[] bytes, int size) {
            text = bytes;
            length = Math.min(size, bytes.length);
            at = 0;
        }

        void advance() {
            while (at < length && (text[at] == 10 || text[at] == 32)) {
                at++;
            }
            place = at;
            value = 0;
            if (at >= length) {
                token = END;
            } else if (isDigitAt(at)) {
                readNumber();
            } else if (isLetterAt(at)) {
                readWord();
            } else {
                readSign();
            }
        }

        private boolean isDigitAt(int i) {
            return i < length && text[i] >= '0' && text[i] <= '9';
        }

        private boolean isLetterAt(int i) {
            return i < length && text[i] >= 'a' && text[i] <= 'z';
        }

        private void readNumber() {
            token = NUMBER;
            while (isDigitAt(at)) {
                value = Math.min(BEYOND, value * 10 + text[at] - '0');
                at++;
            }
        }

        private void readWord() {
            while (isLetterAt(at)) {
                at++;
            }
            token = BAD;
            for (int word = IF; word <= THREE; word++) {
                if (isWord(wordOf(word))) {
                    token = word;
                }
            }
        }

        /** Whether what lies between place and at is the word. */
        private boolean isWord(String word) {
            if (word.length() != at - place) {
                return false;
            }
            for (int i = 0; i < word.length(); i++) {
                if (text[place + i] != word.charAt(i)) {
                    return false;
                }
            }
            return true;
        }

        private void readSign() {
            token = signOf(text[at]);
            at++;
            int behind = at < length ? text[at] : 0;
            int whole = token;
            if (token == LESS && behind == '=') {
                whole = LESS_OR_SAME;
            } else if (token == LESS && behind == '>') {
                whole = OTHER;
            } else if (token == MORE && behind == '=') {
                whole = MORE_OR_SAME;
            }
            if (whole != token) {
                token = whole;
                at++;
            }
        }

        static boolean isName(int token) {
            return token >= LOW && token <= THREE;
        }

        static boolean isComparison(int token) {
            return token >= LESS && token <= MORE;
        }

        /** How tightly an operator binds; 0 for what is none. */
        static int bindingOf(int token) {
            if (token == OR) {
                return 1;
            }
            if (token == AND) {
                return 2;
            }
            if (token == NOT) {
                return 3;
            }
            if (isComparison(token)) {
                return 4;
            }
            if (token == PLUS || token == MINUS) {
                return 5;
            }
            return token == TIMES || token == OVER ? 6 : 0;
        }

        static String wordOf(int token) {
            switch (token) {
                case IF:
                    return "if";
                case FALL:
                    return "fall";
                case STOP:
                    return "stop";
                case NOT:
                    return "not";
                case OR:
                    return "or";
                case AND:
                    return "and";
                case LOW:
                    return "low";
                case HIGH:
                    return "high";
                case SPAN:
                    return "span";
                case FALLS:
                    return "falls";
                case LAST:
                    return "last";
                case BROKE:
                    return "broke";
                case ONE:
                    return "one";
                case TWO:
                    return "two";
                case THREE:
                    return "three";
                default:
                    return "";
            }
        }

        static int signOf(int sign) {
            switch (sign) {
                case '(':
                    return OPEN;
                case ')':
                    return CLOSE;
                case ';':
                    return SEMICOLON;
                case '<':
                    return LESS;
                case '=':
                    return SAME;
                case '>':
                    return MORE;
                case '+':
                    return PLUS;
                case '-':
                    return MINUS;
                case '*':
                    return TIMES;
                case '/':
                    return OVER;
                default:
                    return BAD;
            }
        }
    }

    /** A plan's lines; each has the knots of its condition and of its number behind each other. */
    private static final class Plan {
        static final int MOST_LINES = 12;
        static final int MOST_KNOTS = 64;
        static final int STOPS = 3;
        /** What is added to a token among the knots, to part it from the numbers. */
        static final int TOKENS = 1000;

        int lines = 0;
        int knots = 0;
        /** The kind that a line lets fall, or STOPS. */
        final int[] deed = new int[MOST_LINES];
        final int[] numberFrom = new int[MOST_LINES];
        final int[] numberTo = new int[MOST_LINES];
        /** Operands first, each operator behind its own. */
        final int[] knot = new int[MOST_KNOTS];

        void clear() {
            lines = 0;
            knots = 0;
        }

        int conditionFrom(int line) {
            return line > 0 ? numberTo[line - 1] : 0;
        }

        boolean hasCondition(int line) {
            return numberFrom[line] > conditionFrom(line);
        }
    }

    /** Makes a plan of a text, or finds its first fault. */
    private static final class PlanReader {
        static final int WRONG = 1;
        static final int TOO_MUCH = 2;
        private static final int MOST_OPEN = 8;
        private static final int AT_LINE = 0;
        private static final int AT_KIND = 1;
        private static final int AT_OPERAND = 2;
        private static final int AT_OPERATOR = 3;

        private final Token tokens = new Token();
        private Plan plan = new Plan();
        /** Operators and '(' whose right side is not yet there. */
        private final int[] waiting = new int[Plan.MOST_KNOTS + MOST_OPEN];
        private int waits = 0;
        /** Knots that have been met, those that wait among them. */
        private int met = 0;
        private int written = 0;
        private int state = AT_LINE;
        private int open = 0;
        /** Of each depth of '(' whether a comparison there has come: a second may not. */
        private final boolean[] compared = new boolean[MOST_OPEN + 1];
        private boolean notFits = false;
        private boolean inCondition = false;
        int fault = 0;
        int place = NONE;

        void read(int[] text, int length, Plan into) {
            tokens.open(text, length);
            plan = into;
            plan.clear();
            state = AT_LINE;
            met = 0;
            written = 0;
            fault = 0;
            place = NONE;
            // each token but the end takes a byte
            for (int i = 0; i <= length; i++) {
                tokens.advance();
                fault = take(tokens.token);
                if (fault != 0) {
                    place = tokens.place;
                    return;
                }
                if (tokens.token == Token.END) {
                    break;
                }
            }
            plan.knots = met;
        }

        private int take(int token) {
            switch (state) {
                case AT_LINE:
                    return takeAtLine(token);
                case AT_KIND:
                    return takeKind(token);
                case AT_OPERAND:
                    return takeOperand(token);
                default:
                    return takeBehindOperand(token);
            }
        }

        private int takeAtLine(int token) {
            if (token == Token.END) {
                return 0;
            }
            if (token != Token.IF && token != Token.FALL && token != Token.STOP) {
                return WRONG;
            }
            if (plan.lines >= Plan.MOST_LINES) {
                return TOO_MUCH;
            }
            if (token == Token.IF) {
                inCondition = true;
                startExpression();
            } else {
                startDeed(token);
            }
            return 0;
        }

        private void startDeed(int token) {
            inCondition = false;
            plan.numberFrom[plan.lines] = written;
            if (token == Token.FALL) {
                state = AT_KIND;
            } else {
                plan.deed[plan.lines] = Plan.STOPS;
                startExpression();
            }
        }

        private int takeKind(int token) {
            if (token != Token.NUMBER) {
                return WRONG;
            }
            if (tokens.value >= KINDS) {
                return TOO_MUCH;
            }
            plan.deed[plan.lines] = tokens.value;
            startExpression();
            return 0;
        }

        private void startExpression() {
            waits = 0;
            open = 0;
            compared[0] = false;
            notFits = true;
            state = AT_OPERAND;
        }

        private int takeOperand(int token) {
            if (token == Token.OPEN) {
                return takeOpen();
            }
            if (token == Token.NOT) {
                return notFits ? takeOperator(token) : WRONG;
            }
            if (token != Token.NUMBER && !Token.isName(token)) {
                return WRONG;
            }
            if (met >= Plan.MOST_KNOTS || tokens.value >= Token.BEYOND) {
                return TOO_MUCH;
            }
            met++;
            write(token == Token.NUMBER ? tokens.value : Plan.TOKENS + token);
            state = AT_OPERATOR;
            return 0;
        }

        private int takeOpen() {
            if (open >= MOST_OPEN) {
                return TOO_MUCH;
            }
            open++;
            compared[open] = false;
            notFits = true;
            hold(Token.OPEN);
            return 0;
        }

        private int takeBehindOperand(int token) {
            if (token == Token.CLOSE) {
                return takeClose();
            }
            if (Token.isComparison(token) && compared[open]) {
                return WRONG;
            }
            if (Token.bindingOf(token) > 0 && token != Token.NOT) {
                return takeOperator(token);
            }
            if (open > 0) {
                return WRONG;
            }
            if (inCondition && (token == Token.FALL || token == Token.STOP)) {
                release(1);
                startDeed(token);
                return 0;
            }
            if (!inCondition && token == Token.SEMICOLON) {
                release(1);
                plan.numberTo[plan.lines] = written;
                plan.lines++;
                state = AT_LINE;
                return 0;
            }
            return WRONG;
        }

        private int takeClose() {
            if (open == 0) {
                return WRONG;
            }
            release(1);
            waits--;
            open--;
            return 0;
        }

        private int takeOperator(int token) {
            if (met >= Plan.MOST_KNOTS) {
                return TOO_MUCH;
            }
            met++;
            if (token != Token.NOT) {
                release(Token.bindingOf(token));
            }
            hold(token);
            notFits = token == Token.NOT || token == Token.AND || token == Token.OR;
            if (Token.isComparison(token)) {
                compared[open] = true;
            } else if (notFits) {
                compared[open] = false;
            }
            state = AT_OPERAND;
            return 0;
        }

        private void hold(int token) {
            if (waits < waiting.length) {
                waiting[waits] = token;
                waits++;
            }
        }

        /** Writes the operators that wait and bind at least so tightly; '(' binds by 0. */
        private void release(int binding) {
            while (waits > 0 && Token.bindingOf(waiting[waits - 1]) >= binding) {
                waits--;
                write(Plan.TOKENS + waiting[waits]);
            }
        }

        private void write(int knot) {
            if (written < Plan.MOST_KNOTS) {
                plan.knot[written] = knot;
                written++;
            }
        }
    }

    /** Works out the expressions of a plan. */
    private static final class Reckoner {
        private static final long MOST = 1000000000000L;

        private final long[] stack = new long[Plan.MOST_KNOTS];
        private int depth = 0;
        /** Whether the latest expression had an error. */
        boolean failed = false;

        /** The value of the knots from .. to; 0 with an error. */
        long work(Plan plan, int from, int to, Course course) {
            depth = 0;
            failed = false;
            for (int i = from; i < to && !failed; i++) {
                int knot = plan.knot[i];
                if (knot < Plan.TOKENS) {
                    push(knot);
                } else if (Token.isName(knot - Plan.TOKENS)) {
                    push(valueOfName(knot - Plan.TOKENS, course));
                } else {
                    operate(knot - Plan.TOKENS);
                }
            }
            return failed ? 0 : pop();
        }

        private void push(long value) {
            if (depth < stack.length && value <= MOST && value >= -MOST) {
                stack[depth] = value;
                depth++;
            } else {
                failed = true;
            }
        }

        private long pop() {
            if (depth == 0) {
                failed = true;
                return 0;
            }
            depth--;
            return stack[depth];
        }

        private static long valueOfName(int name, Course course) {
            switch (name) {
                case Token.LOW:
                    return course.low;
                case Token.HIGH:
                    return course.high;
                case Token.SPAN:
                    return course.high - course.low;
                case Token.FALLS:
                    return course.falls;
                case Token.LAST:
                    return course.lastStep();
                case Token.BROKE:
                    return course.lastBroke();
                case Token.ONE:
                    return course.left[0];
                case Token.TWO:
                    return course.left[1];
                default:
                    return course.left[2];
            }
        }

        private void operate(int operator) {
            long right = pop();
            if (operator == Token.NOT) {
                push(right == 0 ? 1 : 0);
                return;
            }
            long left = pop();
            switch (operator) {
                case Token.PLUS:
                    push(left + right);
                    break;
                case Token.MINUS:
                    push(left - right);
                    break;
                case Token.TIMES:
                    multiply(left, right);
                    break;
                case Token.OVER:
                    divide(left, right);
                    break;
                default:
                    push(holds(operator, left, right) ? 1 : 0);
                    break;
            }
        }

        /** Looks before it multiplies, for the product may be beyond a long. */
        private void multiply(long left, long right) {
            if (left != 0 && Math.abs(right) > MOST / Math.abs(left)) {
                failed = true;
            } else {
                push(left * right);
            }
        }

        private void divide(long left, long right) {
            if (right == 0) {
                failed = true;
            } else {
                push(left / right);
            }
        }

        private static boolean holds(int operator, long left, long right) {
            switch (operator) {
                case Token.OR:
                    return left != 0 || right != 0;
                case Token.AND:
                    return left != 0 && right != 0;
                case Token.LESS:
                    return left < right;
                case Token.LESS_OR_SAME:
                    return left <= right;
                case Token.SAME:
                    return left == right;
                case Token.OTHER:
                    return left != right;
                case Token.MORE_OR_SAME:
                    return left >= right;
                default:
                    return left > right;
            }
        }
    }

    /** A trial of a plan with one strength, from its first fall to its end. */
    private static final class PlanTrial {
        private static final int GOES_ON = -1;
        private static final int KNOWN = 0;
        private static final int RIGHT = 1;
        private static final int OTHER = 2;
        private static final int STUCK = 3;

        final Course course = new Course(MOST_PLAN_FALLS);
        private final Reckoner reckoner = new Reckoner();
        int ends = STUCK;
        long says = NONE;

        void run(Stair stair, Plan plan, int t) {
            course.start(stair, t);
            ends = GOES_ON;
            says = NONE;
            // a turn that does not end it is a fall, and of those there is only so much room
            for (int turn = 0; turn <= MOST_PLAN_FALLS + 1 && ends == GOES_ON; turn++) {
                if (course.low < course.high) {
                    takeTurn(stair, plan);
                } else {
                    ends = KNOWN;
                    says = t;
                }
            }
        }

        private void takeTurn(Stair stair, Plan plan) {
            int line = lineThatHolds(plan);
            if (line == NONE) {
                ends = STUCK;
                return;
            }
            long number = reckoner.work(plan, plan.numberFrom[line], plan.numberTo[line], course);
            if (reckoner.failed) {
                ends = STUCK;
            } else if (plan.deed[line] == Plan.STOPS) {
                says = number;
                ends = number == course.strength ? RIGHT : OTHER;
            } else {
                letFall(stair, plan.deed[line], number);
            }
        }

        private int lineThatHolds(Plan plan) {
            for (int line = 0; line < plan.lines; line++) {
                if (!plan.hasCondition(line)) {
                    return line;
                }
                // an error answers 0, and so its line is left out
                if (reckoner.work(plan, plan.conditionFrom(line), plan.numberFrom[line], course) != 0) {
                    return line;
                }
            }
            return NONE;
        }

        private void letFall(Stair stair, int kind, long number) {
            if (number < 1 || number > stair.steps || !course.canFall(stair, kind, (int) number)) {
                ends = STUCK;
            } else {
                course.letFall(stair, kind, (int) number);
            }
        }

        /** What this trial adds to what judge() tells. */
        long shareOf(int what, int weight) {
            switch (what) {
                case 0:
                    return course.falls;
                case 1:
                    return course.cost;
                case 2:
                    return (long) weight * course.falls;
                case 3:
                    return (long) weight * course.cost;
                case 4:
                    return ends == OTHER ? weight : 0;
                default:
                    return ends == STUCK ? weight : 0;
            }
        }
    }

    /**
     * BEST of every span with every number of pieces left, by one law: a row for each code of
     * pieces, made only when it is asked for and used again.
     */
    private static final class BestTable {
        private static final int UNKNOWN = -1;
        private static final int MOVED = -2;

        private final int[][] rows = new int[LEFT_CODES][];
        /** The age in which a row was filled. */
        private final int[] filledIn = new int[LEFT_CODES];
        private int age = 0;
        private int lawNow = NONE;
        private int changesNow = NONE;
        private int steps = 0;
        private boolean mean = false;
        private int fallCost = 0;
        private int climbCost = 0;
        private final int[] tough = new int[KINDS];
        private final int[] price = new int[KINDS];
        /** Of each strength all weights below it. */
        private final int[] weightBelow = new int[MOST_STEPS + 2];
        /** BEST with each price of the kind whose edge is sought. */
        private final int[] dearValue = new int[MOST_PRICE + 1];
        private int keptKind = NONE;
        private int keptStep = NONE;
        private int leastYet = ENDLESS;
        int firstKind = NONE;
        int firstStep = NONE;

        void prepare(Stair stair, int law) {
            if (law == lawNow && stair.changes == changesNow) {
                return;
            }
            lawNow = law;
            changesNow = stair.changes;
            age++;
            steps = stair.steps;
            mean = law == 1 || law == 3;
            boolean byCost = law >= 2;
            fallCost = byCost ? stair.fallCost : 1;
            climbCost = byCost ? stair.climbCost : 0;
            for (int kind = 0; kind < KINDS; kind++) {
                tough[kind] = stair.tough[kind];
                price[kind] = byCost ? stair.price[kind] : 0;
            }
            for (int t = 0; t <= steps; t++) {
                weightBelow[t + 1] = weightBelow[t] + stair.weight[t];
            }
        }

        /** BEST, or NEVER; sets the first fall. */
        long valueOf(int low, int high, int code) {
            if (low >= high) {
                forgetFirst();
                return 0;
            }
            fillUpTo(code);
            int value = pick(code, low, high);
            return value >= ENDLESS ? NEVER : value;
        }

        /**
         * The edge of a kind's price, to be asked behind valueOf from the whole span. It goes up in
         * strides that grow where the first fall stays and shrink where it may not.
         */
        int edgeOf(int kind, int code) {
            keptKind = firstKind;
            keptStep = firstStep;
            Arrays.fill(dearValue, UNKNOWN);
            int kept = price[kind];
            dearValue[kept] = leastYet;
            int stride = 1;
            int edge = MOST_PRICE + 1;
            // far more turns than prices: each either goes up or makes the stride less
            for (int turn = 0; turn < 10 * MOST_PRICE && kept < MOST_PRICE && edge > MOST_PRICE; turn++) {
                int reach = Math.min(MOST_PRICE, kept + stride);
                int middle = (kept + reach) / 2;
                seek(reach, kind, code);
                if (mean && dearValue[reach] != MOVED && dearValue[reach] != dearValue[kept]) {
                    seek(middle, kind, code);
                }
                if (reach == kept + 1 && dearValue[reach] == MOVED) {
                    edge = reach;
                } else if (reach == kept + 1 || staysBetween(kept, middle, reach)) {
                    kept = reach;
                    stride *= 2;
                } else {
                    stride = (reach - kept) / 2;
                }
            }
            // what was filled with other prices must not be used again
            lawNow = NONE;
            return edge;
        }

        /**
         * Whether the first fall surely stays for all prices from kept to reach. What any first
         * fall costs never sinks with the price: where BEST is the same at both ends, the first
         * fall of both is best between them, and one that was dearer stays so. By the mean it
         * bends down alone: where BEST lies straight, a first fall that is best at the ends and in
         * the middle is best all along, and one that is best between is so at the ends.
         */
        private boolean staysBetween(int kept, int middle, int reach) {
            if (dearValue[reach] == MOVED) {
                return false;
            }
            if (dearValue[reach] == dearValue[kept]) {
                return true;
            }
            if (!mean || dearValue[middle] == MOVED) {
                return false;
            }
            long lower = dearValue[middle] - dearValue[kept];
            long upper = dearValue[reach] - dearValue[middle];
            return lower * (reach - middle) == upper * (middle - kept);
        }

        /** Finds BEST with another price of the kind; MOVED if it lets fall otherwise first. */
        private void seek(int dearer, int kind, int code) {
            if (dearValue[dearer] == UNKNOWN) {
                price[kind] = dearer;
                fillAgain(code, kind);
                int value = pick(code, 0, steps);
                boolean stays = firstKind == keptKind && firstStep == keptStep;
                dearValue[dearer] = stays ? value : MOVED;
            }
        }

        private void forgetFirst() {
            firstKind = NONE;
            firstStep = NONE;
        }

        private static int piecesIn(int code, int kind) {
            return code / unitOf(kind) % 5;
        }

        private static boolean isPartOf(int part, int code) {
            return piecesIn(part, 0) <= piecesIn(code, 0)
                    && piecesIn(part, 1) <= piecesIn(code, 1)
                    && piecesIn(part, 2) <= piecesIn(code, 2);
        }

        /** A piece less is a lesser code, so that what a row needs lies before it. */
        private void fillUpTo(int code) {
            for (int part = 0; part <= code; part++) {
                if (filledIn[part] != age && isPartOf(part, code)) {
                    if (rows[part] == null) {
                        rows[part] = new int[SPANS];
                    }
                    fillRow(part, 0);
                    filledIn[part] = age;
                }
            }
        }

        /** Only rows with a piece of the kind know its price; the last one is asked at the top alone. */
        private void fillAgain(int code, int kind) {
            for (int part = 0; part <= code; part++) {
                if (isPartOf(part, code) && piecesIn(part, kind) > 0) {
                    fillRow(part, part == code ? steps : 0);
                }
            }
        }

        private void fillRow(int code, int fromHigh) {
            int[] row = rows[code];
            if (row == null) {
                return;
            }
            for (int high = fromHigh; high <= steps; high++) {
                row[spanAt(high, high)] = 0;
                for (int low = high - 1; low >= 0; low--) {
                    row[spanAt(low, high)] = pick(code, low, high);
                }
            }
        }

        /** The least of a span that is not known, from the rows of what a fall leaves. */
        private int pick(int code, int low, int high) {
            leastYet = ENDLESS;
            forgetFirst();
            int[] same = rows[code];
            for (int kind = 0; kind < KINDS; kind++) {
                if (piecesIn(code, kind) > 0) {
                    int[] fewer = rows[code - unitOf(kind)];
                    if (same != null && fewer != null) {
                        pickOf(kind, same, fewer, low, high);
                    }
                }
            }
            return leastYet;
        }

        private void pickOf(int kind, int[] same, int[] fewer, int low, int high) {
            int from = Math.max(low + 1, 1 - tough[kind]);
            int to = Math.min(high, steps - tough[kind]);
            int all = mean ? weightBelow[high + 1] - weightBelow[low] : 1;
            int top = spanAt(0, high);
            int under = spanAt(low, from - 1);
            for (int t = from; t <= to; t++) {
                int paid = all * (fallCost + climbCost * (t + tough[kind]));
                int breaking = mean ? weightBelow[t] - weightBelow[low] : 1;
                int broken = breaking * price[kind] + fewer[under];
                // a greater span is never cheaper: from here on it only grows
                if (paid + broken >= leastYet) {
                    return;
                }
                int whole = same[top + t];
                int sum = paid + (mean ? broken + whole : Math.max(broken, whole));
                if (sum < leastYet) {
                    leastYet = sum;
                    firstKind = kind;
                    firstStep = t + tough[kind];
                }
                under += t;
            }
        }
    }

    /** The fewest falls at worst with pieces that grow weak. */
    private static final class WeakTable {
        private static final int WIDTH = MOST_STEPS + 1;

        /** With a piece less, none of them fallen yet; and with all of them. */
        private int[] fewer = new int[0];
        private int[] fresh = new int[0];
        /** Of one high: for each low, how often the piece in use has fallen. */
        private int[] worn = new int[0];
        private int steps = 0;
        private int tough = 0;
        private int weakening = 0;

        int fewestFalls(Stair stair, int pieces, int w) {
            makeRoom();
            steps = stair.steps;
            tough = stair.tough[0];
            weakening = w;
            fillWithoutPieces();
            for (int piece = 1; piece <= pieces; piece++) {
                for (int high = 0; high <= steps; high++) {
                    fillHigh(high);
                }
                int[] old = fewer;
                fewer = fresh;
                fresh = old;
            }
            int falls = fewer[spanAt(0, steps)];
            return falls >= ENDLESS ? REFUSED : falls;
        }

        private void makeRoom() {
            if (fewer.length == 0) {
                fewer = new int[SPANS];
                fresh = new int[SPANS];
                worn = new int[WIDTH * WIDTH];
            }
        }

        private void fillWithoutPieces() {
            Arrays.fill(fewer, ENDLESS);
            for (int high = 0; high <= steps; high++) {
                fewer[spanAt(high, high)] = 0;
            }
        }

        private void fillHigh(int high) {
            for (int low = high; low >= 0; low--) {
                // each fall that told and left it whole has lifted low
                for (int fallen = 0; fallen <= low; fallen++) {
                    worn[low * WIDTH + fallen] = fewestFrom(low, high, fallen);
                }
                fresh[spanAt(low, high)] = worn[low * WIDTH];
            }
        }

        private int fewestFrom(int low, int high, int fallen) {
            if (low == high) {
                return 0;
            }
            int least = fewer[spanAt(low, high)];
            int shift = weakening * fallen - tough;
            int from = Math.max(low + 1, 1 + shift);
            int to = Math.min(high, steps + shift);
            for (int t = from; t <= to; t++) {
                int broken = fewer[spanAt(low, t - 1)];
                if (broken + 1 >= least) {
                    return least;
                }
                int whole = worn[t * WIDTH + fallen + 1];
                least = Math.min(least, 1 + Math.max(broken, whole));
            }
            return least;
        }
    }

    /**
     * The fewest falls at worst where results may lie. A state has two bits for each strength: how
     * many results more may speak against it till it is out. Every fall makes the state a lesser
     * number, and a state of fewer steps or lies is one of more in which some are spent.
     */
    private static final class LieTable {
        private static final int LOW_BITS = 0x5555;
        /** Far above what any state needs; a byte holds it. */
        private static final int MOST_FALLS = 100;

        private byte[] falls = new byte[0];
        private int filled = 0;

        int fewestFalls(int steps, int lies) {
            int size = 1 << (2 * (steps + 1));
            if (falls.length < size) {
                falls = Arrays.copyOf(falls, size);
            }
            int start = (lies + 1) * (LOW_BITS & (size - 1));
            while (filled <= start) {
                falls[filled] = (byte) fewestFrom(filled);
                filled++;
            }
            return falls[start];
        }

        private int fewestFrom(int state) {
            int alive = (state | (state >> 1)) & LOW_BITS;
            if (Integer.bitCount(alive) <= 1) {
                return 0;
            }
            int least = MOST_FALLS;
            for (int step = 1; step <= MOST_LIED_STEPS; step++) {
                int below = alive & ((1 << (2 * step)) - 1);
                int above = alive - below;
                if (below != 0 && above != 0) {
                    int worst = Math.max(falls[state - below], falls[state - above]);
                    least = Math.min(least, worst + 1);
                }
            }
            return least;
        }
    }

    /** Told falls and strikes, and which of them count. */
    private static final class NoteBook {
        private static final int ROOM = 40;

        int size = 0;
        private final int[] testers = new int[ROOM];
        private final int[] kinds = new int[ROOM];
        private final int[] steps = new int[ROOM];
        private final boolean[] broke = new boolean[ROOM];
        /** The note that a strike strikes; NONE of a told fall. */
        private final int[] strikes = new int[ROOM];
        private final boolean[] counts = new boolean[ROOM];
        private final boolean[] fits = new boolean[MOST_STEPS + 1];

        void clear() {
            size = 0;
        }

        int write(int tester, int kind, int step, boolean broken) {
            if (size >= ROOM) {
                return NONE;
            }
            testers[size] = tester;
            kinds[size] = kind;
            steps[size] = step;
            broke[size] = broken;
            return close(NONE);
        }

        int writeStrike(int note) {
            if (note < 0 || note >= size || size >= ROOM) {
                return NONE;
            }
            return close(note);
        }

        private int close(int struck) {
            strikes[size] = struck;
            size++;
            settle();
            return size - 1;
        }

        /** A strike strikes only what lies before it, so the last one always counts. */
        private void settle() {
            for (int i = 0; i < size; i++) {
                counts[i] = true;
            }
            for (int i = size - 1; i >= 0; i--) {
                if (counts[i] && strikes[i] != NONE) {
                    counts[strikes[i]] = false;
                }
            }
        }

        private boolean isWrong(int i, Stair stair, int t) {
            return counts[i] && strikes[i] == NONE
                    && stair.breaks(kinds[i], steps[i], t) != broke[i];
        }

        int wrongAt(Stair stair, int t) {
            int wrong = 0;
            for (int i = 0; i < size; i++) {
                if (isWrong(i, stair, t)) {
                    wrong++;
                }
            }
            return wrong;
        }

        int wrongBy(int tester, Stair stair, int t) {
            int wrong = 0;
            for (int i = 0; i < size; i++) {
                if (testers[i] == tester && isWrong(i, stair, t)) {
                    wrong++;
                }
            }
            return wrong;
        }

        /** The first strength of those that are doubted least. */
        int leastDoubted(Stair stair) {
            int first = 0;
            int least = wrongAt(stair, 0);
            for (int t = 1; t <= stair.steps; t++) {
                int wrong = wrongAt(stair, t);
                if (wrong < least) {
                    least = wrong;
                    first = t;
                }
            }
            return first;
        }

        /** The step whose fall parts the weights of what fits most evenly; NONE if nothing fits. */
        int partingStep(Stair stair, int kind) {
            boolean any = false;
            for (int t = 0; t <= stair.steps; t++) {
                fits[t] = wrongAt(stair, t) == 0;
                any = any || fits[t];
            }
            if (!any) {
                return NONE;
            }
            int best = 1;
            int least = differenceBy(1, stair, kind);
            for (int step = 2; step <= stair.steps; step++) {
                int difference = differenceBy(step, stair, kind);
                if (difference < least) {
                    least = difference;
                    best = step;
                }
            }
            return best;
        }

        private int differenceBy(int step, Stair stair, int kind) {
            int difference = 0;
            for (int t = 0; t <= stair.steps; t++) {
                if (fits[t]) {
                    difference += stair.breaks(kind, step, t) ? stair.weight[t] : -stair.weight[t];
                }
            }
            return Math.abs(difference);
        }
    }
}
