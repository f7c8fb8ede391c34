/** ==== 5 and promises 20 to 26: how many notes there may be, which count, and the first of several T and steps. */
public final class BoundNotesTest {
    /** "NONE: no such ones": testers 0 .. 5, kinds 0 .. 2, steps 1 .. N of the stair as it is. */
    private static void refused() {
        Due.answered("note's tester", 0, 5, -1, tester -> new HighFall().note(tester, 0, 1, true));
        Due.answered("note's kind", 0, 2, -1, kind -> new HighFall().note(0, kind, 1, true));
        for (int n : new int[] {1, 20, 40}) {
            Due.answered("note's step of " + n, 1, n, -1, step -> {
                HighFall x = new HighFall();
                x.stair(n);
                return x.note(0, 0, step, false);
            });
        }
        HighFall x = new HighFall();
        for (int i = 0; i < 10; i++) x.note(0, 0, 25, true);
        Due.due("a refused one takes no number", x.note(0, 0, 20, true), 0);
        Due.due("and isn't counted", x.count(3), 1);
        Due.due("nor does it doubt", x.doubt(0), 0);
    }

    /** "NONE: no such NOTE": those that there are, a strike among them, not itself and none to come. */
    private static void strikes() {
        HighFall x = new HighFall();
        for (int note : Due.beyond(0, 0)) Due.due("strike " + note + " of none", x.strike(note), -1);
        Due.due("strike 0 of none", x.strike(0), -1);
        x.note(0, 0, 1, true);
        x.note(0, 0, 1, true);
        for (int note : Due.beyond(0, 1)) Due.due("strike " + note + " of two", x.strike(note), -1);
        Due.due("nothing came of it", x.count(3), 2);
        Due.due("the last of two", x.strike(1), 2);
        Due.due("the strike itself", x.strike(2), 3);
        Due.due("the first", x.strike(0), 4);
        Due.due("one to come", x.strike(5), -1);
    }

    /** "NOTES, at most 40, numbered from 0 on"; "or there are 40". */
    private static void forty() {
        HighFall told = new HighFall();
        HighFall struck = new HighFall();
        struck.note(0, 0, 20, false);
        for (int i = 0; i < 40; i++) Due.due("note " + i, told.note(5, 2, 20, true), i);
        for (int i = 1; i < 40; i++) Due.due("strike " + i, struck.strike(i - 1), i);
        for (HighFall x : new HighFall[] {told, struck}) {
            Due.due("no 41st note", x.note(0, 0, 1, true), -1);
            Due.due("no 41st strike", x.strike(0), -1);
            Due.due("nor of the last", x.strike(39), -1);
            Due.due("there are 40", x.count(3), 40);
        }
        Due.due("all 40 are heeded", told.doubt(20), 40);
        Due.due("and are his", told.doubted(5), 0);
        // 39 strikes in a row: the last counts, the one ahead doesn't, .. the first does, and the note doesn't
        Due.due("a row of strikes", struck.doubt(0), 0);
        told.stair(20);
        Due.due("another stair: from 0 on", told.note(0, 0, 1, true), 0);
    }

    /** "Those count that aren't STRUCK by one that counts (asked from the last one on)." */
    private static void whichCount() {
        HighFall x = new HighFall();
        x.note(0, 0, 20, false);
        Due.due("it counts", x.doubt(0), 1);
        for (int i = 1; i < 40; i++) {
            x.strike(i - 1);
            Due.due(i + " strikes in a row", x.doubt(0), i % 2 == 0 ? 1 : 0);
        }
        HighFall y = new HighFall();
        y.note(0, 0, 20, false);
        y.strike(0);
        y.strike(0);
        y.strike(1);
        Due.due("struck twice, one strike struck", y.doubt(0), 0);
        y.strike(2);
        Due.due("both strikes struck", y.doubt(0), 1);
        y.strike(0);
        Due.due("a third one", y.doubt(0), 0);
        y.strike(3);
        y.strike(5);
        // 7 strikes 5, 6 strikes 3: so 1 counts again and strikes the note
        Due.due("the first strike counts again", y.doubt(0), 0);
        y.strike(6);
        Due.due("and doesn't any more", y.doubt(0), 1);
    }

    /** "FITTING: how many (k NONE), or the k-th T. NONE: there is none such." */
    private static void fitting() {
        HighFall x = new HighFall();
        Due.due("all", x.fitting(-1), 21);
        Due.answered("the k-th of all", 0, 20, -1, k -> k == -1 ? -1 : x.fitting(k));
        x.note(0, 0, 5, false);
        x.note(0, 0, 8, true);
        Due.due("5 .. 7", x.fitting(-1), 3);
        Due.due("the first", x.fitting(0), 5);
        Due.due("the last", x.fitting(2), 7);
        for (int k : new int[] {3, 20, 21, -2, Integer.MIN_VALUE, Integer.MAX_VALUE}) Due.due("the " + k + "-th", x.fitting(k), -1);
        x.note(0, 0, 4, true);
        Due.due("none", x.fitting(-1), 0);
        Due.due("no first", x.fitting(0), -1);
    }

    /** Each T on both sides of what a note tells, with each sort of tough. */
    private static void fittingByTough() {
        for (int d : new int[] {-9, -1, 0, 1, 9}) {
            for (int step = 1; step <= 12; step++) {
                HighFall x = new HighFall();
                x.stair(12);
                x.kind(1, d, 0, 1);
                x.note(3, 1, step, false);
                for (int t = 0; t <= 12; t++) {
                    Due.due("whole from " + step + ", d " + d + ", T " + t, x.doubt(t), step <= t + d ? 0 : 1);
                }
                x.note(3, 1, step, true);
                for (int t = 0; t <= 12; t++) Due.due("both ways", x.doubt(t), 1);
                x.strike(0);
                for (int t = 0; t <= 12; t++) {
                    Due.due("broken from " + step + ", d " + d + ", T " + t, x.doubt(t), step <= t + d ? 1 : 0);
                }
            }
        }
    }

    /** "DOUBT of a T; NONE: no such T", "NONE for another what", "NONE: no such TESTER". */
    private static void wrongAsks() {
        for (int n : new int[] {1, 20, 40}) {
            HighFall x = new HighFall();
            x.stair(n);
            Due.answered("doubt's T of " + n, 0, n, -1, t -> x.doubt(t));
        }
        HighFall x = new HighFall();
        Due.answered("least's what", 0, 1, -1, what -> x.least(what));
        Due.answered("doubted's tester", 0, 5, -1, tester -> x.doubted(tester));
        Due.answered("parts' kind", 0, 2, -1, kind -> x.parts(kind));
    }

    /** "of T with LEAST DOUBT the first: how many of his aren't so". */
    private static void leastDoubt() {
        HighFall x = new HighFall();
        Due.due("without notes", x.least(0), 0);
        Due.due("all T have it: the first", x.least(1), 0);
        x.note(4, 0, 20, false);
        Due.due("the last T alone", x.least(1), 20);
        x.note(5, 0, 1, true);
        // T 0 and T 20 have one each, those between have two
        Due.due("one against one", x.least(0), 1);
        Due.due("of 0 and 20 the first", x.least(1), 0);
        Due.due("between", x.doubt(10), 2);
        Due.due("tester 4 isn't so there", x.doubted(4), 1);
        Due.due("tester 5 is", x.doubted(5), 0);
        x.note(4, 0, 20, false);
        Due.due("two against one", x.least(1), 20);
        Due.due("now tester 5 isn't so", x.doubted(5), 1);
        Due.due("and tester 4 is", x.doubted(4), 0);
        x.note(5, 0, 20, false);
        Due.due("of his the one that isn't so", x.doubted(5), 1);
        x.strike(1);
        Due.due("struck it doesn't count", x.doubted(5), 0);
        Due.due("least doubt then", x.least(0), 0);
        // a strike is no tester's: its row may hold what an older note left there
        HighFall y = new HighFall();
        for (int i = 0; i < 5; i++) y.note(2, 0, 20, true);
        y.stair(20);
        y.note(1, 0, 1, true);
        y.strike(0);
        y.strike(1);
        Due.due("strikes say nothing of a T", y.doubt(20), 1);
        Due.due("nor of a tester", y.doubted(2), 0);
    }

    /** "LEAST DOUBT: the least of a T": each T alone, and one before others that are doubted more, yet less than T 0. */
    private static void leastOfEach() {
        for (int n : new int[] {1, 2, 9, 40}) {
            for (int t = 0; t <= n; t++) {
                HighFall x = new HighFall();
                x.stair(n);
                if (t > 0) x.note(0, 0, t, false);
                if (t < n) x.note(1, 0, t + 1, true);
                Due.due("T " + t + " of " + n + " alone", x.least(1), t);
                Due.due("not doubted", x.least(0), 0);
                Due.due("the others are", x.doubt(t == 0 ? n : 0), 1);
            }
        }
        HighFall x = new HighFall();
        for (int i = 0; i < 3; i++) x.note(i, 0, 5, false);
        x.note(3, 0, 8, true);
        x.note(3, 0, 12, true);
        // T 0 .. 4: 3, 5 .. 7: 0, 8 .. 11: 1, 12 and more: 2
        Due.due("the first of the least", x.least(1), 5);
        Due.due("which is", x.least(0), 0);
        x.note(4, 0, 20, false);
        Due.due("all but the last doubted once more", x.least(1), 5);
        Due.due("which is once", x.least(0), 1);
        Due.due("by tester 4", x.doubted(4), 1);
    }

    /** "differ least; of several the least STEP"; "NONE: no such KIND, nothing is FITTING". */
    private static void parts() {
        HighFall x = new HighFall();
        x.stair(2);
        // T 0 1 2: from 1 it is 1 to 2, from 2 it is 2 to 1
        Due.due("of 1 and 2 the least", x.parts(0), 1);
        x.weight(0, 2);
        Due.due("2 to 2 from 1", x.parts(0), 1);
        x.weight(0, 1);
        x.weight(2, 2);
        Due.due("2 to 2 from 2", x.parts(0), 2);
        for (int t = 0; t <= 2; t++) x.weight(t, 0);
        Due.due("without weights step 1", x.parts(0), 1);
        x.stair(12);
        x.kind(1, 9, 0, 1);
        // from 10 it parts T 0 from the rest, from 12 three from ten
        Due.due("tough by 9 the topmost", x.parts(1), 12);
        x.kind(1, -9, 0, 1);
        Due.due("weaker by 9: from 1 ten break, three don't", x.parts(1), 1);
        x.note(0, 0, 12, false);
        Due.due("one T: all steps are as good", x.parts(0), 1);
        x.note(0, 0, 11, true);
        for (int kind = 0; kind < 3; kind++) Due.due("nothing fits", x.parts(kind), -1);
        Due.due("nor has it such a kind", x.parts(3), -1);
        x.strike(1);
        Due.due("it fits again", x.parts(2), 1);
        x.strike(0);
        x.stair(1);
        Due.due("one step", x.parts(0), 1);
    }

    public static void main(String[] args) {
        refused();
        strikes();
        forty();
        whichCount();
        fitting();
        fittingByTough();
        wrongAsks();
        leastDoubt();
        leastOfEach();
        parts();
        Due.end();
    }
}
