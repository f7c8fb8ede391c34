/** Terms, and promises 1, 3 to 8 and 31: both sides of each bound of the stair, its kinds, costs and weights. */
public final class BoundTermsTest {
    /** "STEPS 1 .. N (N 1 .. 40; 20 at first)"; "false: no such N". */
    private static void steps() {
        Due.due("N at first", new HighFall().count(0), 20);
        Due.taken("stair", 1, 40, n -> new HighFall().stair(n));
        for (int n = 1; n <= 40; n++) {
            HighFall x = new HighFall();
            Due.due("stair " + n, x.stair(n), true);
            Due.due("its N", x.count(0), n);
        }
    }

    /** "STRENGTH T is 0 .. N" of the stair as it is, for weight() and likely(). */
    private static void strengths() {
        for (int n : new int[] {1, 2, 20, 39, 40}) {
            HighFall x = new HighFall();
            x.stair(n);
            Due.taken("weight's T of " + n, 0, n, t -> x.weight(t, 3));
            Due.answered("likely's T of " + n, 0, n, -1, t -> x.likely(t));
            Due.due("both ends are set", x.likely(0) + x.likely(n), 6);
            Due.due("and nothing else", x.count(6), n - 1 + 6);
        }
        HighFall x = new HighFall();
        x.stair(40);
        x.weight(40, 7);
        x.stair(5);
        Due.due("a lower stair has no T 40", x.weight(40, 9), false);
        x.stair(40);
        Due.due("a higher one anew: weight 1", x.likely(40), 1);
        Due.due("all weights 1", x.count(6), 41);
    }

    /** "a WEIGHT 0 .. 99 (1)". */
    private static void weights() {
        Due.due("a weight at first", new HighFall().likely(7), 1);
        Due.taken("weight", 0, 99, w -> new HighFall().weight(7, w));
        HighFall x = new HighFall();
        for (int t = 0; t <= 20; t++) x.weight(t, 99);
        Due.due("all weights at most", x.count(6), 21 * 99);
        for (int t = 0; t <= 20; t++) x.weight(t, 0);
        Due.due("all weights at least", x.count(6), 0);
        x.weight(7, 50);
        x.weight(7, 100);
        x.weight(7, -1);
        Due.due("a refused weight leaves the one that was", x.likely(7), 50);
    }

    /** "KINDS 0 .. 2, each TOUGH by d (-9 .. 9; 0 at first), with PIECES (0 .. 4; ..) and a PRICE (0 .. 99; 1)". */
    private static void kinds() {
        Due.taken("kind", 0, 2, k -> new HighFall().kind(k, 0, 1, 1));
        for (int k = 0; k < 3; k++) {
            int kind = k;
            Due.taken("tough of " + k, -9, 9, d -> new HighFall().kind(kind, d, 1, 1));
            Due.taken("pieces of " + k, 0, 4, p -> new HighFall().kind(kind, 0, p, 1));
            Due.taken("price of " + k, 0, 99, p -> new HighFall().kind(kind, 0, 1, p));
            HighFall x = new HighFall();
            Due.due("tough at first", x.look(k, 0), 0);
            Due.due("pieces at first", x.look(k, 1), k == 0 ? 2 : 0);
            Due.due("price at first", x.look(k, 2), 1);
            Due.due("all at most", x.kind(k, 9, 4, 99), true);
            Due.due("as told", x.look(k, 0) * 1000 + x.look(k, 1) * 100 + x.look(k, 2), 9499);
            for (int other = 0; other < 3; other++) {
                if (other != k) Due.due("others stay", x.look(other, 2), 1);
            }
            Due.due("all at least", x.kind(k, -9, 0, 0), true);
            Due.due("as told", x.look(k, 0) * 1000 + x.look(k, 1) * 100 + x.look(k, 2), -9000);
        }
    }

    /** "A FALL costs f (0 .. 99; 1), a CLIMB c (0 .. 9; 0) times the STEP." */
    private static void costs() {
        Due.due("a fall at first", new HighFall().count(4), 1);
        Due.due("a climb at first", new HighFall().count(5), 0);
        Due.taken("fall's cost", 0, 99, f -> new HighFall().cost(f, 0));
        Due.taken("climb's cost", 0, 9, c -> new HighFall().cost(1, c));
        HighFall x = new HighFall();
        Due.due("both at most", x.cost(99, 9), true);
        Due.due("a wrong climb", x.cost(5, 10), false);
        Due.due("leaves the fall's", x.count(4), 99);
        Due.due("a wrong fall", x.cost(100, 5), false);
        Due.due("leaves the climb's", x.count(5), 9);
        Due.due("both at least", x.cost(0, 0), true);
        Due.due("as told", x.count(4) + x.count(5), 0);
    }

    /** "IndexOutOfBoundsException: no such KIND. NoSuchElementException: no such what." */
    private static void looks() {
        HighFall x = new HighFall();
        for (int kind = 0; kind < 3; kind++) {
            for (int what = 0; what < 3; what++) Due.due("look answers", Due.lookThrows(x, kind, what), 0);
            for (int what : Due.beyond(0, 2)) Due.due("no what " + what, Due.lookThrows(x, kind, what), 2);
        }
        for (int kind : Due.beyond(0, 2)) {
            for (int what = 0; what < 3; what++) Due.due("no kind " + kind, Due.lookThrows(x, kind, what), 1);
            for (int what : Due.beyond(0, 2)) Due.due("no kind, told first", Due.lookThrows(x, kind, what), 1);
        }
    }

    /** "NONE for another what." */
    private static void counts() {
        HighFall x = new HighFall();
        Due.answered("count", 0, 6, -1, what -> x.count(what));
    }

    /** "let fall from STEP s stays whole if s is T and d at most, else it breaks", and what that leaves of a SPAN. */
    private static void wholeAndBroken() {
        for (int d : new int[] {-9, -1, 0, 1, 9}) {
            for (int t = 0; t <= 12; t++) {
                HighFall x = Due.handAt(12, t, d);
                for (int s = 1; s <= 12; s++) {
                    x.begin(0);
                    String name = "T " + t + ", d " + d + ", step " + s;
                    boolean whole = s <= t + d;
                    Due.due(name, x.drop(0, s), whole ? 1 : 2);
                    Due.due(name + ": low is s less d, if that is more", x.now(0), whole ? Math.max(0, s - d) : 0);
                    Due.due(name + ": high, if that is less", x.now(1), whole ? 12 : Math.min(12, s - d - 1));
                    Due.due(name + ": a piece less", x.now(3), whole ? 4 : 3);
                }
            }
        }
    }

    /** "if that is more", "if that is less": a second fall that says less than the first. */
    private static void spanStays() {
        HighFall x = Due.handAt(20, 10, 0);
        x.drop(0, 8);
        x.drop(0, 7);
        Due.due("whole from lower", x.now(0), 8);
        x.drop(0, 8);
        Due.due("whole from as high", x.now(0), 8);
        x.drop(0, 9);
        Due.due("whole from one higher", x.now(0), 9);
        x.drop(0, 13);
        x.drop(0, 14);
        Due.due("broken from higher", x.now(1), 12);
        x.drop(0, 13);
        Due.due("broken from as high", x.now(1), 12);
        x.drop(0, 12);
        Due.due("broken from one lower", x.now(1), 11);
    }

    /** "COST of a FALL: f and c s, and the PRICE if it breaks." */
    private static void costOfAFall() {
        HighFall x = new HighFall();
        x.stair(40);
        x.cost(99, 9);
        x.kind(0, 0, 1, 99);
        for (int t = 0; t < 40; t++) x.weight(t, 0);
        x.begin(0);
        Due.due("whole at the top", x.drop(0, 40), 1);
        Due.due("without the price", x.now(4), 99 + 9 * 40);
        x.weight(40, 0);
        x.weight(0, 1);
        x.begin(0);
        Due.due("broken at the top", x.drop(0, 40), 2);
        Due.due("with the price", x.now(4), 99 + 9 * 40 + 99);
        x.cost(0, 0);
        x.kind(0, 0, 1, 0);
        x.begin(0);
        x.drop(0, 40);
        Due.due("for nothing", x.now(4), 0);
        x.begin(0);
        x.cost(0, 1);
        x.drop(0, 1);
        Due.due("a climb of one step", x.now(4), 1);
    }

    public static void main(String[] args) {
        steps();
        strengths();
        weights();
        kinds();
        costs();
        looks();
        counts();
        wholeAndBroken();
        spanStays();
        costOfAFall();
        Due.end();
    }
}
