import java.math.BigInteger;

/** ==== 6 and promises 27 to 30: how a T is drawn, falls and their taking back, and what is refused. */
public final class BoundHandTest {
    /** "false: the seed is below 0, all WEIGHTS are 0". */
    private static void begins() {
        Due.due("seed 0", new HighFall().begin(0), true);
        Due.due("seed -1", new HighFall().begin(-1), false);
        Due.due("the least seed", new HighFall().begin(Integer.MIN_VALUE), false);
        Due.due("the greatest seed", new HighFall().begin(Integer.MAX_VALUE), true);
        HighFall x = new HighFall();
        for (int t = 0; t <= 20; t++) x.weight(t, 0);
        Due.due("no weights", x.begin(0), false);
        Due.due("no trial", x.now(0), -1);
        x.weight(20, 1);
        Due.due("one weight", x.begin(0), true);
        Due.due("its T", x.now(5), 20);
        x.weight(20, 0);
        Due.due("no weights again", x.begin(5), false);
        Due.due("the trial ahead stays", x.now(5), 20);
    }

    private static HighFall weighted(int[] weights) {
        HighFall x = new HighFall();
        x.stair(weights.length - 1);
        for (int t = 0; t < weights.length; t++) x.weight(t, weights[t]);
        return x;
    }

    private static int strengthOf(int seed, int[] weights) {
        BigInteger number = BigInteger.valueOf(seed).multiply(BigInteger.valueOf(1103515245))
            .add(BigInteger.valueOf(12345)).mod(BigInteger.TWO.pow(31)).shiftRight(16);
        int all = 0;
        for (int weight : weights) all += weight;
        int rest = number.intValue() % all;
        int t = 0;
        while (rest >= weights[t]) rest -= weights[t++];
        return t;
    }

    /** "a number (the seed times 1103515245 and 12345, without what is above 31 bits) by 65536, modulo all WEIGHTS". */
    private static void drawn() {
        int[] seeds = new int[600];
        for (int i = 0; i < 300; i++) seeds[i] = i;
        for (int i = 300; i < 600; i++) seeds[i] = Integer.MAX_VALUE - (i - 300) * 7158279;
        int[][] weights = {{1, 1, 1, 1, 1, 1}, {0, 0, 3, 0, 0, 0}, {0, 2, 0, 1, 4, 0}, {99, 99, 99, 99, 99, 99}, {1, 0, 0, 0, 0, 1}};
        for (int[] row : weights) {
            boolean[] met = new boolean[6];
            HighFall x = null;
            for (int i = 0; i < seeds.length; i++) {
                if (i % 200 == 0) x = weighted(row);
                int t = strengthOf(seeds[i], row);
                x.begin(seeds[i]);
                Due.due("T of seed " + seeds[i], x.now(5), t);
                met[t] = true;
            }
            for (int t = 0; t <= 5; t++) Due.due("T " + t + " was drawn", met[t], row[t] > 0);
        }
    }

    /** "the first T up to which WEIGHTS together are more": not when they are as much. */
    private static void firstThatIsMore() {
        // seed 1 draws 16838: of three in all it is 2, of two it is 0
        HighFall x = new HighFall();
        x.stair(2);
        int[][] weights = {{2, 0, 1}, {2, 1, 0}, {1, 1, 1}, {0, 2, 1}, {3, 0, 0}, {0, 3, 0}, {0, 0, 3}, {1, 2, 0}};
        int[] due = {2, 1, 2, 2, 0, 1, 2, 1};
        for (int i = 0; i < due.length; i++) {
            for (int t = 0; t <= 2; t++) x.weight(t, weights[i][t]);
            x.begin(1);
            Due.due("2 of three", x.now(5), due[i]);
        }
        for (int t = 0; t <= 2; t++) x.weight(t, t == 0 ? 0 : 1);
        x.begin(1);
        Due.due("0 of two: the first with a weight", x.now(5), 1);
    }

    /** "no TRIAL" of drop(), back() and now(): at first, and behind stair() and kind(). */
    private static void noTrial() {
        for (int way = 0; way < 4; way++) {
            HighFall x = new HighFall();
            if (way > 0) {
                x.begin(1);
                x.drop(0, 5);
            }
            if (way == 1) x.stair(20);
            if (way == 2) x.kind(0, 0, 2, 1);
            if (way == 3) x.kind(2, 0, 0, 1);
            Due.due("no drop", x.drop(0, 5), -1);
            Due.due("no back", x.back(), -1);
            for (int what = 0; what <= 5; what++) Due.due("no now", x.now(what), -1);
        }
        HighFall x = new HighFall();
        x.begin(1);
        x.drop(0, 5);
        x.cost(2, 2);
        x.weight(17, 0);
        Due.feed(x, "stop 1;");
        x.plan(20);
        x.note(0, 0, 5, false);
        x.strike(0);
        Due.due("nothing else ends it", x.now(2), 1);
        Due.due("its T stays", x.now(5), 17);
    }

    /** "NONE, and nothing happens: .. no PIECE left, no such ones". */
    private static void drops() {
        for (int n : new int[] {1, 20, 40}) {
            HighFall x = Due.handAt(n, n, 0);
            Due.answered("drop's step of " + n, 1, n, -1, step -> x.drop(0, step));
        }
        HighFall x = new HighFall();
        for (int kind = 0; kind < 3; kind++) x.kind(kind, 0, 4, 1);
        x.begin(1);
        Due.answered("drop's kind", 0, 2, -1, kind -> x.drop(kind, 5));
        HighFall y = Due.handAt(20, 0, 0);
        for (int i = 0; i < 4; i++) Due.due("piece " + i, y.drop(0, 20), 2);
        Due.due("no fifth", y.drop(0, 20), -1);
        Due.due("nor of a kind without any", y.drop(1, 20), -1);
        Due.due("four falls", y.now(2), 4);
        Due.due("none left", y.now(3), 0);
        Due.due("nothing was paid for it", y.now(4), 8);
        Due.due("a piece comes back", y.back(), 3);
        Due.due("and falls again", y.drop(0, 1), 2);
        Due.due("T 0 is known", y.now(1), 0);
    }

    /** "there were 100". */
    private static void hundred() {
        HighFall x = Due.handAt(20, 20, 0);
        for (int i = 1; i <= 100; i++) Due.due("fall " + i, x.drop(0, 20), 1);
        Due.due("100", x.now(2), 100);
        Due.due("no 101st", x.drop(0, 20), -1);
        Due.due("nothing happened", x.now(4), 100);
        Due.due("99 again", x.back(), 99);
        Due.due("the 100th again", x.drop(0, 1), 1);
        Due.due("no 101st again", x.drop(0, 20), -1);
        for (int i = 99; i >= 0; i--) Due.due("back to " + i, x.back(), i);
        Due.due("no further", x.back(), -1);
        Due.due("all is as at first", x.now(0) + x.now(2) + x.now(4), 0);
        x.drop(0, 3);
        x.begin(0);
        Due.due("another trial has none", x.now(2), 0);
    }

    /** "The latest FALL is taken back: how many there are; NONE: none". */
    private static void takenBack() {
        HighFall x = new HighFall();
        x.stair(12);
        x.kind(0, 2, 2, 10);
        x.kind(1, -2, 3, 20);
        x.kind(2, 0, 4, 30);
        x.cost(3, 1);
        for (int t = 0; t <= 12; t++) x.weight(t, t == 6 ? 1 : 0);
        x.begin(9);
        int[][] falls = {{0, 8}, {0, 9}, {2, 2}, {1, 4}, {1, 5}, {2, 7}, {2, 6}, {0, 12}};
        int[] answers = {1, 2, 1, 1, 2, 2, 1, 2};
        int[][] story = new int[falls.length + 1][];
        for (int i = 0; i <= falls.length; i++) {
            story[i] = new int[] {x.now(0), x.now(1), x.now(2), x.now(3), x.now(4), x.now(5)};
            if (i < falls.length) Due.due("fall " + i, x.drop(falls[i][0], falls[i][1]), answers[i]);
        }
        Due.due("left at the end", story[8][3], 0 + 5 * 2 + 25 * 3);
        Due.due("cost at the end", story[8][4], 8 * 3 + 8 + 9 + 2 + 4 + 5 + 7 + 6 + 12 + 10 + 20 + 30 + 10);
        for (int i = falls.length - 1; i >= 0; i--) {
            Due.due("how many there are", x.back(), i);
            for (int what = 0; what <= 5; what++) Due.due("now " + what + " behind back to " + i, x.now(what), story[i][what]);
        }
        Due.due("none", x.back(), -1);
        for (int what = 0; what <= 5; what++) Due.due("nothing happened", x.now(what), story[0][what]);
    }

    /** "no such what", and PIECES left "(as in next())". */
    private static void nows() {
        HighFall x = new HighFall();
        x.kind(0, 0, 1, 1);
        x.kind(1, 0, 2, 1);
        x.kind(2, 0, 3, 1);
        x.begin(0);
        Due.answered("now", 0, 5, -1, what -> x.now(what));
        Due.due("pieces left", x.now(3), 1 + 5 * 2 + 25 * 3);
        for (int kind = 0; kind < 3; kind++) x.kind(kind, 0, 4, 1);
        x.begin(0);
        Due.due("the most pieces", x.now(3), 124);
        for (int kind = 0; kind < 3; kind++) x.kind(kind, 0, 0, 1);
        x.begin(0);
        Due.due("the fewest pieces", x.now(3), 0);
        Due.due("low", x.now(0), 0);
        Due.due("high", x.now(1), 20);
    }

    public static void main(String[] args) {
        begins();
        drawn();
        firstThatIsMore();
        noTrial();
        drops();
        hundred();
        takenBack();
        nows();
        Due.end();
    }
}
