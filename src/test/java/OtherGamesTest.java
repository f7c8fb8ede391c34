/** Promises 17 to 19: pieces that grow weak, several at once, results that lie. */
public final class OtherGamesTest {
    private static void weak() {
        HighFall x = new HighFall();
        int[][] wrong = {{0, 0}, {5, 0}, {1, -1}, {1, 4}};
        for (int[] w : wrong) Due.due("wrong weak", x.weak(w[0], w[1]), -1);
        Due.due("without weakness as best", x.weak(2, 0), 6);
        Due.due("one piece", x.weak(1, 0), 20);
        Due.due("one piece, always from step 1", x.weak(1, 1), 20);
        Due.due("too weak", x.weak(1, 2), -2);
        x.stair(1);
        Due.due("one step", x.weak(1, 3), 1);
        x.stair(2);
        Due.due("T 2 needs a fresh piece", x.weak(1, 2), -2);
        Due.due("begun at will", x.weak(2, 2), 2);
        x.stair(3);
        // from 2 first: broken, then the other from 1; whole, then the other from 3
        Due.due("two pieces, three steps", x.weak(2, 3), 2);
        x.stair(4);
        x.kind(0, 0, 0, 1);
        Due.due("pieces of the kind don't count", x.weak(4, 0), 3);
        x.stair(3);
        x.kind(0, 1, 2, 1);
        Due.due("tough: no step for T 3", x.weak(2, 0), -2);
        // from 2 each time: it tells T 1, then T 2 and T 3 as it weakens
        Due.due("weakness makes up for it", x.weak(1, 1), 3);
        x.kind(0, 3, 2, 1);
        Due.due("only falls that tell: none here", x.weak(1, 1), -2);
        x.kind(1, 5, 2, 1);
        x.kind(0, 0, 2, 1);
        Due.due("other kinds don't count", x.weak(1, 1), 3);
    }

    private static void rounds() {
        HighFall x = new HighFall();
        int[][] wrong = {{0, 1}, {10, 1}, {1, 0}, {1, 5}};
        for (int[] w : wrong) Due.due("wrong rounds", x.rounds(w[0], w[1]), -1);
        Due.due("one by one", x.rounds(1, 1), 20);
        Due.due("two, one by one", x.rounds(2, 1), 6);
        Due.due("two at once", x.rounds(2, 2), 5);
        Due.due("only one there", x.rounds(1, 4), 20);
        Due.due("nine, one by one", x.rounds(9, 1), 5);
        Due.due("nine, four at once", x.rounds(9, 4), 2);
        x.stair(4);
        Due.due("four steps at once", x.rounds(4, 4), 1);
        Due.due("three pieces for four steps", x.rounds(3, 3), 2);
        x.stair(1);
        Due.due("one step", x.rounds(1, 4), 1);
        x.stair(40);
        x.kind(0, 9, 0, 1);
        Due.due("neither tough nor pieces count", x.rounds(1, 1), 40);
        Due.due("nine, four at once, 40 steps", x.rounds(9, 4), 3);
    }

    private static void lies() {
        HighFall x = new HighFall();
        int[][] wrong = {{0, 0}, {8, 0}, {1, -1}, {1, 3}, {-1, 1}};
        for (int[] w : wrong) Due.due("wrong lies", x.lies(w[0], w[1]), -1);
        Due.due("two strengths, two lies", x.lies(1, 2), 5);
        Due.due("two strengths, a lie", x.lies(1, 1), 3);
        int[] truth = {1, 2, 2, 3, 3, 3, 3};
        SlowFall slow = new SlowFall();
        for (int n = 7; n >= 1; n--) {
            Due.due("lies(" + n + ", 0)", x.lies(n, 0), truth[n - 1]);
            for (int most = 0; most <= 2; most++) {
                Due.due("lies(" + n + ", " + most + ")", x.lies(n, most), slow.lies(n, most));
                Due.due("lies(" + n + ", " + most + ") alone", new HighFall().lies(n, most), slow.lies(n, most));
            }
        }
        x.stair(1);
        Due.due("the stair doesn't count", x.lies(7, 0), 3);
    }

    public static void main(String[] args) {
        weak();
        rounds();
        lies();
        Due.end();
    }
}
