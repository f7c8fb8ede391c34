/** Promises 27 to 30: a trial led by hand and back. */
public final class HandTest {
    private static void drawing() {
        HighFall x = new HighFall();
        Due.due("seed -1", x.begin(-1), false);
        Due.due("no trial", x.now(5), -1);
        Due.due("seed 0", x.begin(0), true);
        Due.due("T 0", x.now(5), 0);
        Due.due("seed -5 leaves it", x.begin(-5), false);
        Due.due("T 0 still", x.now(5), 0);
        Due.due("seed 1", x.begin(1), true);
        Due.due("T 17", x.now(5), 17);
        // 2147483647 * 1103515245 + 12345 has the lowest 31 bits 1043980748, by 65536: 15929 = 21 * 758 + 11
        Due.due("the greatest seed", x.begin(Integer.MAX_VALUE), true);
        Due.due("T 11", x.now(5), 11);
        // numbers 277282815 and 1062535168: the last and the first of a 65536, 4230 and 16213 of them
        x.begin(47902);
        Due.due("one less than the next 65536", x.now(5), 9);
        x.begin(42627);
        Due.due("just at a 65536", x.now(5), 1);
        for (int t = 0; t <= 20; t++) x.weight(t, 0);
        Due.due("no weights", x.begin(1), false);
        Due.due("the trial ahead stays", x.now(5), 1);
        x.weight(13, 1);
        x.begin(77);
        Due.due("the only one", x.now(5), 13);
        x.weight(4, 2);
        // seed 1: 16838 = 3 * 5612 + 2, and 2 is behind the two of T 4
        x.begin(1);
        Due.due("behind two", x.now(5), 13);
        x.begin(0);
        Due.due("among two", x.now(5), 4);
    }

    private static void falling() {
        HighFall x = new HighFall();
        Due.due("no trial to drop", x.drop(0, 1), -1);
        Due.due("no trial to take back", x.back(), -1);
        x.kind(0, 0, 2, 4);
        x.kind(1, -3, 1, 9);
        x.cost(2, 1);
        x.begin(1);
        int[] fresh = {0, 20, 0, 7, 0, 17};
        for (int what = 0; what < 6; what++) Due.due("now " + what, x.now(what), fresh[what]);
        Due.due("now -1", x.now(-1), -1);
        Due.due("now 6", x.now(6), -1);
        int[][] wrong = {{-1, 1}, {3, 1}, {0, 0}, {0, 21}, {2, 1}};
        for (int[] w : wrong) Due.due("wrong drop", x.drop(w[0], w[1]), -1);
        Due.due("nothing happened", x.now(2), 0);
        Due.due("whole", x.drop(0, 10), 1);
        Due.due("low", x.now(0), 10);
        Due.due("cost", x.now(4), 12);
        Due.due("a fall that tells nothing", x.drop(0, 4), 1);
        Due.due("low stays", x.now(0), 10);
        Due.due("cost grows", x.now(4), 18);
        Due.due("kind 1 breaks", x.drop(1, 15), 2);
        Due.due("high", x.now(1), 17);
        Due.due("left", x.now(3), 2);
        Due.due("cost with the price", x.now(4), 18 + 17 + 9);
        Due.due("none left of it", x.drop(1, 15), -1);
        Due.due("kind 0 breaks", x.drop(0, 18), 2);
        Due.due("high stays", x.now(1), 17);
        Due.due("whole at its strength", x.drop(0, 17), 1);
        Due.due("known", x.now(0), 17);
        Due.due("it may go on", x.drop(0, 1), 1);
        Due.due("six falls", x.now(2), 6);
        int[] counts = {5, 4, 3, 2, 1, 0};
        int[] lows = {17, 10, 10, 10, 10, 0};
        int[] lefts = {1, 1, 2, 7, 7, 7};
        int[] costs = {18 + 26 + 24 + 19, 18 + 26 + 24, 18 + 26, 18, 12, 0};
        int[] highs = {17, 17, 17, 20, 20, 20};
        for (int i = 0; i < 6; i++) {
            Due.due("back " + i, x.back(), counts[i]);
            Due.due("low behind back " + i, x.now(0), lows[i]);
            Due.due("high behind back " + i, x.now(1), highs[i]);
            Due.due("left behind back " + i, x.now(3), lefts[i]);
            Due.due("cost behind back " + i, x.now(4), costs[i]);
        }
        Due.due("no more back", x.back(), -1);
        Due.due("T stays", x.now(5), 17);
        x.drop(0, 5);
        x.begin(1);
        Due.due("begun anew", x.now(2), 0);
        Due.due("no fall to take back", x.back(), -1);
        x.kind(2, 0, 0, 0);
        Due.due("a kind ends it", x.back(), -1);
    }

    private static void hundred() {
        HighFall x = new HighFall();
        x.begin(1);
        for (int i = 0; i < 100; i++) Due.due("drop " + i, x.drop(0, 1 + i % 17), 1);
        Due.due("there were 100", x.drop(0, 1), -1);
        Due.due("100", x.now(2), 100);
        Due.due("one back", x.back(), 99);
        Due.due("one more", x.drop(0, 18), 2);
        Due.due("no 101st", x.drop(0, 1), -1);
        Due.due("a piece less", x.now(3), 1);
    }

    /** What was paid stays paid: a fall costs what it cost as it fell. */
    private static void paid() {
        HighFall x = new HighFall();
        x.begin(1);
        x.drop(0, 1);
        x.cost(50, 0);
        Due.due("paid before", x.now(4), 1);
        x.drop(0, 1);
        Due.due("paid behind", x.now(4), 51);
        x.back();
        Due.due("and back", x.now(4), 1);
    }

    public static void main(String[] args) {
        drawing();
        falling();
        hundred();
        paid();
        Due.end();
    }
}
