/** Promises 20 to 26: notes and strikes, what fits, whom to doubt, the fall that parts most. */
public final class NotesTest {
    private static void writing() {
        HighFall x = new HighFall();
        int[][] wrong = {{-1, 0, 1}, {6, 0, 1}, {0, -1, 1}, {0, 3, 1}, {0, 0, 0}, {0, 0, 21}};
        for (int[] w : wrong) Due.due("wrong note", x.note(w[0], w[1], w[2], true), -1);
        Due.due("nothing to strike", x.strike(0), -1);
        Due.due("none written", x.count(3), 0);
        Due.due("the first", x.note(5, 2, 20, true), 0);
        Due.due("strike -1", x.strike(-1), -1);
        Due.due("strike itself", x.strike(1), -1);
        Due.due("strike 0", x.strike(0), 1);
        Due.due("strike 0 again", x.strike(0), 2);
        for (int i = 3; i < 40; i++) Due.due("note " + i, i % 2 == 0 ? x.strike(i - 1) : x.note(0, 0, 1, false), i);
        Due.due("no 41st note", x.note(0, 0, 1, false), -1);
        Due.due("no 41st strike", x.strike(0), -1);
        Due.due("40 notes", x.count(3), 40);
        x.stair(20);
        Due.due("from 0 on again", x.note(0, 0, 1, false), 0);
    }

    private static void fitting() {
        HighFall x = new HighFall();
        x.note(0, 0, 5, false);
        x.note(1, 0, 10, true);
        Due.due("5 .. 9", x.fitting(-1), 5);
        for (int k = 0; k < 5; k++) Due.due("fitting " + k, x.fitting(k), 5 + k);
        Due.due("fitting 5", x.fitting(5), -1);
        Due.due("fitting -2", x.fitting(-2), -1);
        Due.due("fitting least int", x.fitting(Integer.MIN_VALUE), -1);
        Due.due("doubt of 4", x.doubt(4), 1);
        Due.due("doubt of 5", x.doubt(5), 0);
        Due.due("doubt of 10", x.doubt(10), 1);
        Due.due("doubt of -1", x.doubt(-1), -1);
        Due.due("doubt of 21", x.doubt(21), -1);
        x.kind(0, 3, 0, 1);
        Due.due("tough by 3 it is 2 .. 6", x.fitting(0), 2);
        Due.due("and as many", x.fitting(-1), 5);
        x.note(0, 1, 6, true);
        Due.due("another kind: 2 .. 5", x.fitting(-1), 4);
    }

    private static void strikes() {
        HighFall x = new HighFall();
        x.note(0, 0, 5, false);
        x.note(1, 0, 3, true);
        Due.due("both can't be", x.fitting(-1), 0);
        x.strike(0);
        Due.due("the first is struck", x.fitting(-1), 3);
        x.strike(2);
        Due.due("the strike is struck", x.fitting(-1), 0);
        x.strike(3);
        Due.due("its strike is struck, too", x.fitting(-1), 3);
        x.strike(1);
        Due.due("both are struck", x.fitting(-1), 21);
        x.strike(0);
        x.strike(6);
        Due.due("one of two strikes counts", x.fitting(-1), 21);
        Due.due("a note that is struck isn't doubted", x.doubt(0), 0);
    }

    private static void doubts() {
        HighFall x = new HighFall();
        Due.due("least without notes", x.least(0), 0);
        Due.due("its first T", x.least(1), 0);
        x.note(0, 0, 5, false);
        x.note(1, 0, 3, true);
        x.note(2, 0, 8, false);
        x.note(2, 0, 9, true);
        Due.due("least doubt", x.least(0), 1);
        Due.due("with T 8", x.least(1), 8);
        Due.due("tester 1 is wrong there", x.doubted(1), 1);
        Due.due("tester 0 isn't", x.doubted(0), 0);
        Due.due("tester 2 isn't", x.doubted(2), 0);
        Due.due("tester 5 said nothing", x.doubted(5), 0);
        Due.due("tester 6", x.doubted(6), -1);
        Due.due("tester -1", x.doubted(-1), -1);
        Due.due("least 2", x.least(2), -1);
        Due.due("least -1", x.least(-1), -1);
        x.note(1, 0, 2, true);
        x.note(1, 0, 1, true);
        Due.due("three against two", x.least(0), 2);
        Due.due("T 0 then", x.least(1), 0);
        Due.due("tester 2 is wrong once", x.doubted(2), 1);
        x.strike(2);
        Due.due("a strike is nobody's", x.doubted(0), 1);
        Due.due("least doubt again", x.least(0), 1);
    }

    private static void parts() {
        HighFall x = new HighFall();
        Due.due("the middle", x.parts(0), 10);
        Due.due("no kind -1", x.parts(-1), -1);
        Due.due("no kind 3", x.parts(3), -1);
        x.kind(1, 4, 0, 1);
        Due.due("a tough kind from higher up", x.parts(1), 14);
        x.kind(1, -9, 0, 1);
        Due.due("a weak one from lower", x.parts(1), 1);
        x.weight(20, 99);
        Due.due("a great weight at the top", x.parts(0), 20);
        x.weight(20, 1);
        x.note(0, 0, 5, false);
        x.note(0, 0, 10, true);
        Due.due("the middle of what fits", x.parts(0), 7);
        x.weight(5, 9);
        Due.due("weights move it", x.parts(0), 6);
        for (int t = 0; t <= 20; t++) x.weight(t, 0);
        Due.due("no weights: step 1", x.parts(0), 1);
        x.note(0, 0, 4, true);
        Due.due("nothing fits", x.parts(0), -1);
    }

    public static void main(String[] args) {
        writing();
        fitting();
        strikes();
        doubts();
        parts();
        Due.end();
    }
}
