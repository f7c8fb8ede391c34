/** ==== 2, values and trials, and promises 11 to 13: errors on both sides, when a trial is stuck, how it ends. */
public final class BoundTrialTest {
    /** 10 to the 12, the greatest value that is no error. */
    private static final String MOST = "(500*500*500*500*16)";
    private static final long TRILLION = 1000000000000L;

    private static HighFall planned(String text) {
        HighFall x = new HighFall();
        Due.due("plan <" + text + ">", Due.plan(x, text) >= 0, true);
        return x;
    }

    private static void says(String expression, long value) {
        HighFall x = planned("stop " + expression + ";");
        Due.due(expression + " ends", x.tried(20, 0), value == 20 ? 1 : 2);
        Due.due(expression, x.tried(20, 4), value);
        // as an if it holds unless it is 0
        x = planned("if " + expression + " stop 1;stop 2;");
        Due.due("if " + expression, x.tried(20, 4), value != 0 ? 1 : 2);
    }

    private static void fails(String expression) {
        HighFall x = planned("stop " + expression + ";");
        Due.due(expression + " is stuck", x.tried(20, 0), 3);
        Due.due(expression + " says nothing", x.tried(20, 4), -1);
        x = planned("fall 0 " + expression + ";");
        Due.due("a fall from " + expression + " is stuck", x.tried(20, 0), 3);
        Due.due("and is none", x.tried(20, 1), 0);
        x = planned("if " + expression + " stop 1;if not (" + expression + ") stop 3;stop 2;");
        Due.due("if " + expression + " is left out", x.tried(20, 4), 2);
    }

    /** "ERROR: .. a value above 10 to the 12 or below 0 by more than that", of each part of an expression. */
    private static void greatValues() {
        says(MOST, TRILLION);
        says("0-" + MOST, -TRILLION);
        says(MOST + "-1+1", TRILLION);
        fails(MOST + "+1");
        fails("1+" + MOST);
        fails("0-" + MOST + "-1");
        fails("0-1-" + MOST);
        fails(MOST + "+1-1");
        says(MOST + "*1", TRILLION);
        says("(0-1)*" + MOST, -TRILLION);
        says("(0-1)*(0-" + MOST + ")", TRILLION);
        says(MOST + "*0", 0);
        says("0*" + MOST, 0);
        says(MOST + "/2*2", TRILLION);
        says("(0-" + MOST + ")/(0-1)", TRILLION);
        fails(MOST + "/2*2+1");
        fails(MOST + "*2");
        fails("2*" + MOST);
        fails("(0-2)*" + MOST);
        fails("(0-" + MOST + ")*2");
        fails(MOST + "*2/2");
        fails("0*(" + MOST + "+1)");
        fails(MOST + "+1>0");
        fails("not (" + MOST + "+1)");
        // products beyond a long must not come round
        fails(MOST + "*" + MOST);
        fails("(0-" + MOST + ")*" + MOST);
        fails("(" + MOST + "/4)*(" + MOST + "/4)");
        // 2 to the 32 times 2 to the 32 is 0 in a long
        fails("(256*256*256*256)*(256*256*256*256)");
        fails("(256*256*256*128)*(256*256*256*256)");
    }

    /** "/ is cut towards 0; ERROR: / by 0". */
    private static void division() {
        says("7/2", 3);
        says("(0-7)/2", -3);
        says("7/(0-2)", -3);
        says("(0-7)/(0-2)", 3);
        says("1/2", 0);
        says("(0-1)/2", 0);
        says("0/1", 0);
        says("0/(0-1)", 0);
        fails("1/0");
        fails("0/0");
        fails("1/(low)");
        fails("1/(1/2)");
        fails("1/(2-2)");
    }

    /** "comparisons, and, or, not are 1 or 0 (what isn't 0 is as 1, both sides are worked out)". */
    private static void truths() {
        String[] signs = {"<", "<=", "=", "<>", ">=", ">"};
        for (int a = -1; a <= 1; a++) {
            boolean[] due = {a < 0, a <= 0, a == 0, a != 0, a >= 0, a > 0};
            for (int i = 0; i < 6; i++) says(a + 5 + signs[i] + 5, due[i] ? 1 : 0);
        }
        for (String yes : new String[] {"1", "2", "(0-1)", MOST}) {
            says("not " + yes, 0);
            says("not not " + yes, 1);
            for (String other : new String[] {"1", "3", "(0-2)"}) {
                says(yes + " and " + other, 1);
                says(yes + " or " + other, 1);
            }
            says(yes + " and 0", 0);
            says("0 and " + yes, 0);
            says(yes + " or 0", 1);
            says("0 or " + yes, 1);
        }
        says("0 and 0", 0);
        says("0 or 0", 0);
        says("not 0", 1);
        fails("0 and 1/0");
        fails("1 or 1/0");
        fails("1/0 and 0");
        fails("1/0 or 1");
        fails("not (1/0)");
        fails("1<1/0");
    }

    /** What binds how: E of A of B of C of S of T of P, each from left to right. */
    private static void bindings() {
        says("1 or 0 and 0", 1);
        says("(1 or 0) and 0", 0);
        says("not 0 or 1", 1);
        says("not 1 and 0", 0);
        says("not (1 and 0)", 1);
        says("not 2=3", 1);
        says("(not 2)=3", 0);
        says("1+1<1+2", 1);
        says("1-1-1", -1);
        says("1-(1-1)", 1);
        says("8/4/2", 1);
        says("8/(4/2)", 4);
        says("2*7/2*2", 14);
        says("2+3*4-1", 13);
        says("9-2*3", 3);
        says("(9-2)*3", 21);
        says("0 and 0 or 1", 1);
        says("1 or 0 and 1/1", 1);
        says("(1<2)+(3<4)", 2);
        says("(1 or 0)+1", 2);
        says("3*(1 or 0)", 3);
        says("(1 and 2)+(0 or 0)+1", 2);
        says("(not 0)+(not 0)", 2);
        says("(1<2 or 3)+(1-1-1)", 0);
        // as many as wait at most: 63 words, and 8 '(' with them
        for (int words = 0; words <= 63; words++) {
            String text = "not ".repeat(words) + "low";
            Due.due(words + " times not", planned("stop " + text + ";").tried(0, 4), words % 2);
            Due.due(words + " times not in '('", planned("stop ((((((((" + text + "))))))));").tried(0, 4), words % 2);
        }
    }

    /** "low, high; span; falls; last: the STEP of the latest (0 without); broke: 1 if that broke; one, two, three". */
    private static void names() {
        HighFall x = planned("stop low+high*100+span*100*100;");
        Due.due("at first", x.tried(0, 4), 202000);
        x = planned("stop falls*100+last*10+broke;");
        Due.due("without a fall", x.tried(1, 4), 0);
        x = planned("if falls=0 fall 0 7;stop falls*100+last*10+broke;");
        Due.due("whole from 7", x.tried(7, 4), 170);
        Due.due("broken from 7", x.tried(6, 4), 171);
        x = planned("if falls=0 fall 0 7;if falls=1 fall 0 4;stop falls*100+last*10+broke;");
        Due.due("broken from 7, whole from 4", x.tried(4, 4), 240);
        Due.due("broken from both", x.tried(3, 4), 241);
        x = planned("if falls=0 fall 0 7;stop low*100*100+high*100+span;");
        Due.due("low, high and span behind whole", x.tried(7, 4), 72013);
        Due.due("low, high and span behind broken", x.tried(6, 4), 606);
        x = planned("if falls<2 fall 1 9;stop one*100+two*10+three;");
        x.kind(0, 0, 4, 1);
        x.kind(1, 0, 3, 1);
        x.kind(2, 0, 2, 1);
        Due.due("two broken", x.tried(2, 4), 412);
        Due.due("none broken", x.tried(9, 4), 432);
    }

    /** "as long as low is below high": neither a line nor an error is asked once T is KNOWN. */
    private static void known() {
        HighFall x = planned("if falls=0 fall 0 1;stop 9;");
        Due.due("T 0 is known", x.tried(0, 0), 0);
        Due.due("and said", x.tried(0, 4), 0);
        Due.due("T 1 isn't", x.tried(1, 0), 2);
        x = planned("if falls=0 fall 0 20;stop 1/0;");
        Due.due("T 20 is known", x.tried(20, 0), 0);
        Due.due("and said", x.tried(20, 4), 20);
        Due.due("T 19 is stuck", x.tried(19, 0), 3);
        x = planned("stop 0;");
        x.stair(1);
        Due.due("low is below high at first", x.tried(0, 0), 1);
    }

    /** "the first LINE without if or whose E isn't 0 (with an ERROR it is left out)". */
    private static void firstLine() {
        HighFall x = planned("if 0 stop 1;if 1/0 stop 2;if 0-1 stop 3;stop 4;");
        Due.due("the first that isn't 0", x.tried(0, 4), 3);
        x = planned("stop 1;stop 2;");
        Due.due("the first without if", x.tried(0, 4), 1);
        x = planned("if 0 stop 1;".repeat(11) + "stop 12;");
        Due.due("the 12th", x.tried(0, 4), 12);
        x = planned("if 1 stop 1/0;stop 2;");
        Due.due("an error of its number is not left out", x.tried(0, 0), 3);
        x = planned("if 0 stop 1;".repeat(12));
        Due.due("no thirteenth behind twelve", x.tried(0, 0), 3);
        // lines of longer plans ahead don't stand behind those of a shorter one
        Due.plan(x, "stop 1;".repeat(12));
        Due.plan(x, "fall 0 1;stop 2;".repeat(6));
        Due.plan(x, "if 0 stop 3;");
        Due.due("one line alone", x.tried(0, 0), 3);
        Due.plan(x, "");
        Due.due("no line at all", x.tried(0, 0), 3);
        // what an error leaves of an expression is not heeded by the next one
        x = planned("if 1+(2+3/0) stop 1;".repeat(6) + "stop 2;");
        for (int i = 0; i < 6; i++) Due.due("errors again and again", x.judge(4), 20);
        Due.due("the last line says 2", x.tried(2, 0), 1);
    }

    /** "It is STUCK without such a LINE, with an ERROR of that E". */
    private static void stuckByLines() {
        for (String text : new String[] {"", "if 0 stop 1;", "if 1/0 stop 1;", "if low stop 1;if 0 fall 0 1;"}) {
            HighFall x = planned(text);
            Due.due("<" + text + "> is stuck", x.tried(3, 0), 3);
            Due.due("<" + text + "> had no falls", x.tried(3, 1), 0);
            Due.due("<" + text + "> cost nothing", x.tried(3, 3), 0);
            Due.due("<" + text + "> says nothing", x.tried(3, 4), -1);
            Due.due("all are stuck", x.judge(5), 21);
            Due.due("none says another number", x.judge(4), 0);
        }
    }

    /** "a STEP that isn't 1 .. N". */
    private static void stuckBySteps() {
        for (int n : new int[] {1, 20, 40}) {
            for (int step : new int[] {-1, 0, 1, n, n + 1}) {
                HighFall x = planned("if falls=0 fall 0 " + (step < 0 ? "0-1" : "" + step) + ";stop 999;");
                x.stair(n);
                boolean can = step >= 1 && step <= n;
                Due.due("a fall from " + step + " of " + n, x.tried(0, 1), can ? 1 : 0);
                if (!can) Due.due("stuck", x.tried(0, 0), 3);
            }
        }
        // numbers that come round to 1 if they are cut to an int
        HighFall x = planned("fall 0 256*256*256*256+1;");
        Due.due("2 to the 32 and 1 is no step", x.tried(0, 0), 3);
        x = planned("fall 0 1-256*256*256*256;");
        Due.due("nor is it below 0", x.tried(0, 0), 3);
    }

    /** "no PIECE of K": the last one may fall, and again while it stays whole. */
    private static void stuckByPieces() {
        for (int pieces = 0; pieces <= 4; pieces++) {
            HighFall x = planned("fall 2 high;");
            x.kind(2, 0, pieces, 1);
            Due.due("pieces broken", x.tried(0, 2), pieces);
            Due.due("falls", x.tried(0, 1), pieces);
            Due.due("then stuck", x.tried(0, 0), 3);
            // with all broken high has come down to 20 less pieces, and a T there wants one fall more
            Due.due("that T is stuck", x.tried(20 - pieces, 0), 3);
            if (pieces > 0) Due.due("the last piece stays whole a step higher", x.tried(21 - pieces, 0), 0);
        }
        HighFall x = planned("fall 0 low+1;");
        x.kind(0, 0, 1, 1);
        for (int t = 0; t <= 20; t++) Due.due("one piece goes up to " + t, x.tried(t, 0), 0);
    }

    /** "200 FALLS were". */
    private static void stuckByFalls() {
        HighFall x = planned("if falls<199 fall 0 1;fall 0 20;");
        Due.due("the 200th falls", x.tried(20, 1), 200);
        Due.due("and is heeded", x.tried(20, 0), 0);
        Due.due("the 200th is told", x.fall(20, 199, 1), 20);
        x = planned("if falls<200 fall 0 1;fall 0 20;");
        Due.due("no 201st", x.tried(20, 1), 200);
        Due.due("but stuck", x.tried(20, 0), 3);
        Due.due("none is told", x.fall(20, 200, 1), -1);
        Due.due("with its cost", x.tried(20, 3), 200);
        x = planned("if falls<200 fall 0 1;stop 20;");
        Due.due("a stop then", x.tried(20, 0), 1);
        Due.due("is right", x.tried(20, 4), 20);
        x = planned("if falls=200 stop 1/0;fall 0 1;");
        Due.due("an error then", x.tried(20, 0), 3);
        x = planned("fall 0 1;");
        x.stair(40);
        x.cost(99, 9);
        for (int t = 0; t <= 40; t++) x.weight(t, 99);
        Due.due("the greatest number of falls", x.judge(0), 200);
        Due.due("the greatest cost", x.judge(1), 200 * 108);
        Due.due("by weights", x.judge(2), 99 * (1 + 40 * 200));
        Due.due("costs by weights", x.judge(3), 99L * (109 + 40 * 200 * 108));
        Due.due("stuck by weights", x.judge(5), 99 * 40);
    }

    /** "ENDS: 0 KNOWN (low is high), 1 it SAYS T, 2 it SAYS another number, 3 STUCK." */
    private static void ends() {
        HighFall x = planned("stop 20;");
        Due.due("T 20", x.tried(20, 0), 1);
        Due.due("T 19", x.tried(19, 0), 2);
        x.stair(40);
        Due.due("T 21", x.tried(21, 0), 2);
        Due.due("what it says", x.tried(21, 4), 20);
        x = planned("stop 0-1;");
        Due.due("-1 is another number", x.tried(0, 0), 2);
        Due.due("and what it says", x.tried(0, 4), -1);
        x = planned("stop 0-2;");
        Due.due("so is -2", x.tried(0, 4), -2);
        // 2 to the 32 and T: not T
        x = planned("stop 256*256*256*256+3;");
        Due.due("a number beyond an int isn't T", x.tried(3, 0), 2);
        Due.due("all but none say another number", x.judge(4), 21);
    }

    /** "-2: no PLAN; NONE: no such ones." */
    private static void refused() {
        HighFall none = new HighFall();
        for (int number : new int[] {0, 1, -1, 21, 99, Integer.MIN_VALUE, Integer.MAX_VALUE}) {
            Due.due("tried without a plan", none.tried(number, number), -2);
            Due.due("fall without a plan", none.fall(number, number, number), -2);
            Due.due("judge without a plan", none.judge(number), -2);
        }
        HighFall x = planned("fall 0 low+1;");
        for (int n : new int[] {1, 20, 40}) {
            x.stair(n);
            Due.answered("tried's T of " + n, 0, n, -1, t -> x.tried(t, 0));
            Due.answered("fall's T of " + n, 0, n, -1, t -> x.fall(t, 0, 0));
        }
        Due.answered("tried's what", 0, 4, -1, what -> x.tried(5, what));
        Due.answered("fall's i", 0, 5, -1, i -> x.fall(5, i, 0));
        Due.answered("fall's what", 0, 2, -1, what -> x.fall(5, 0, what));
        Due.answered("judge's what", 0, 5, -1, what -> x.judge(what));
        HighFall empty = planned("stop 1;");
        Due.due("no falls, no first", empty.fall(5, 0, 0), -1);
        HighFall zero = new HighFall();
        zero.plan(0);
        Due.due("a plan of no lines is one", zero.judge(0), 0);
    }

    public static void main(String[] args) {
        greatValues();
        division();
        truths();
        bindings();
        names();
        known();
        firstLine();
        stuckByLines();
        stuckBySteps();
        stuckByPieces();
        stuckByFalls();
        ends();
        refused();
        Due.end();
    }
}
