/** ==== 4 and promises 17 to 19: both sides of the bounds of WEAK, AT ONCE and LIES. */
public final class BoundGamesTest {
    private static HighFall stairOf(int n) {
        HighFall x = new HighFall();
        x.stair(n);
        return x;
    }

    /** "WEAK by w (0 .. 3)", "with n PIECES (1 .. 4)"; "NONE: no such ones." */
    private static void weakOnes() {
        for (int n : new int[] {1, 20, 40}) {
            HighFall x = stairOf(n);
            Due.answered("weak's pieces on " + n, 1, 4, -1, p -> x.weak(p, 0));
            Due.answered("weak's w on " + n, 0, 3, -1, w -> x.weak(2, w));
            Due.due("neither", x.weak(0, 4), -1);
        }
        HighFall never = stairOf(3);
        never.kind(0, 9, 0, 1);
        Due.due("it can't be", never.weak(4, 3), -2);
        Due.due("wrong ones are told before that", never.weak(5, 3), -1);
    }

    /** "breaks if s is above T less w m (its d counts, too)": one piece on a low stair, each way by hand. */
    private static void weakPieces() {
        for (int w = 0; w <= 3; w++) {
            Due.due("one step, w " + w, stairOf(1).weak(1, w), 1);
            // from 1, whole: then it parts 2 from 1 by step 2 less w
            Due.due("two steps, w " + w, stairOf(2).weak(1, w), w <= 1 ? 2 : -2);
            Due.due("two steps, another piece, w " + w, stairOf(2).weak(2, w), 2);
            Due.due("three steps, two pieces, w " + w, stairOf(3).weak(2, w), 2);
        }
        // without weakness as BEST by worst falls of kind 0 alone
        for (int n : new int[] {1, 2, 7, 40}) {
            HighFall x = stairOf(n);
            for (int pieces = 1; pieces <= 4; pieces++) {
                x.kind(0, 0, pieces, 1);
                Due.due("weak by 0, " + pieces + " pieces, " + n + " steps", x.weak(pieces, 0), x.best(0));
            }
        }
        // tough by 1, three steps: a fresh piece parts T 1 and 2, one that fell whole once T 2 and 3 by w 1
        HighFall x = stairOf(3);
        x.kind(0, 1, 2, 1);
        Due.due("tough by 1, w 0", x.weak(4, 0), -2);
        Due.due("tough by 1, w 1, one piece", x.weak(1, 1), 3);
        Due.due("tough by 1, w 1, two pieces", x.weak(2, 1), 2);
        Due.due("tough by 1, w 2, one piece: T 2 is left out", x.weak(1, 2), -2);
        Due.due("tough by 1, w 2, two pieces", x.weak(2, 2), 2);
        x.kind(0, -1, 2, 1);
        Due.due("weaker by 1: no step for T 1", x.weak(4, 0), -2);
        Due.due("nor for one that grows weak", x.weak(4, 3), -2);
    }

    /** "another one is begun as the one ahead breaks, or at will (that one isn't used any more)". */
    private static void inTurn() {
        // three steps and w 3: a piece that fell whole once is of no use here
        Due.due("one piece", stairOf(3).weak(1, 3), -2);
        Due.due("two: from 2, then the other one", stairOf(3).weak(2, 3), 2);
        // a stair of four has a use for it: from 1 it parts T 4 from 3; from 2 first, then so, then the other from 3
        Due.due("two on four steps", stairOf(4).weak(2, 3), 3);
        Due.due("three pieces part eight", stairOf(7).weak(3, 3), 3);
    }

    /** The slow way of the document at the corners of the bounds. */
    private static void corners() {
        for (int n : new int[] {1, 2, 3, 4, 5, 8, 13, 40}) {
            for (int d : new int[] {-9, -1, 0, 1, 2, 3, 9}) {
                HighFall x = stairOf(n);
                SlowFall slow = new SlowFall();
                slow.stair(n);
                x.kind(0, d, 1, 1);
                slow.kind(0, d, 1, 1);
                for (int w = 0; w <= 3; w++) {
                    for (int pieces = 1; pieces <= (n == 40 ? 2 : 4); pieces++) {
                        Due.due("weak " + pieces + " " + w + " on " + n + ", d " + d, x.weak(pieces, w), slow.weak(pieces, w));
                    }
                }
            }
        }
    }

    /** "up to b PIECES (1 .. 4) of n (1 .. 9)"; "NONE: no such ones." */
    private static void atOnce() {
        HighFall x = new HighFall();
        Due.answered("rounds' n", 1, 9, -1, n -> x.rounds(n, 1));
        Due.answered("rounds' b", 1, 4, -1, b -> x.rounds(1, b));
        Due.due("neither", x.rounds(0, 0), -1);
        for (int b = 1; b <= 4; b++) {
            for (int n = 1; n <= 9; n++) {
                // in the first round as many as may fall part one strength more than they are
                int most = Math.min(n, b);
                Due.due(n + " of " + b + " at once, " + most + " steps", stairOf(most).rounds(n, b), 1);
                Due.due(n + " of " + b + " at once, a step more", stairOf(most + 1).rounds(n, b), 2);
            }
        }
        for (int steps : new int[] {1, 2, 3, 10, 20, 39, 40}) {
            HighFall y = stairOf(steps);
            SlowFall slow = new SlowFall();
            slow.stair(steps);
            for (int n = 1; n <= 9; n++) {
                for (int b = 1; b <= 4; b++) Due.due("rounds " + n + " " + b + " on " + steps, y.rounds(n, b), slow.rounds(n, b));
            }
        }
    }

    /** "(pieces without TOUGH; the STAIR as it is)". */
    private static void roundsHeedTheStairAlone() {
        HighFall x = stairOf(40);
        Due.due("40 steps", x.rounds(1, 4), 40);
        x.kind(0, 9, 0, 99);
        x.cost(99, 9);
        x.weight(3, 0);
        Due.due("still 40", x.rounds(1, 4), 40);
        x.stair(1);
        Due.due("one step", x.rounds(9, 4), 1);
    }

    /** "up to L results (0 .. 2)", "of a STAIR of n STEPS (1 .. 7)"; "NONE: no such ones." */
    private static void lied() {
        HighFall x = new HighFall();
        Due.answered("lies' n", 1, 7, -1, n -> x.lies(n, 0));
        Due.answered("lies' L", 0, 2, -1, lies -> x.lies(1, lies));
        Due.due("neither", x.lies(0, 3), -1);
        // one step: the more often said is right
        int[] twoStrengths = {1, 3, 5};
        // eight strengths: 6 falls have 64 results and want 8 times 7, but no steps part them evenly enough
        int[] eightStrengths = {3, 7, 10};
        for (int lies = 0; lies <= 2; lies++) {
            Due.due("one step, lies " + lies, new HighFall().lies(1, lies), twoStrengths[lies]);
            Due.due("seven steps, lies " + lies, new HighFall().lies(7, lies), eightStrengths[lies]);
        }
        x.stair(1);
        x.kind(0, 9, 0, 1);
        Due.due("of a stair of its own, pieces without end", x.lies(7, 2), 10);
        x.stair(40);
        Due.due("nor of a higher one", x.lies(1, 2), 5);
    }

    public static void main(String[] args) {
        weakOnes();
        weakPieces();
        inTurn();
        corners();
        atOnce();
        roundsHeedTheStairAlone();
        lied();
        Due.end();
    }
}
