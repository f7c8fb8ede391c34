/** Promises 11 to 13: trials of the plan, their falls, and the judgement over all strengths. */
public final class TrialTest {
    /** What a plan that stops at once says. */
    private static void says(String expression, long value) {
        HighFall x = new HighFall();
        Due.due("plan " + expression, Due.plan(x, "stop " + expression + ";"), 1);
        Due.due("ends " + expression, x.tried(0, 0), value == 0 ? 1 : 2);
        Due.due("says " + expression, x.tried(0, 4), value);
    }

    private static void failing(String expression) {
        HighFall x = new HighFall();
        Due.due("plan " + expression, Due.plan(x, "if " + expression + " stop 1;stop 2;"), 2);
        Due.due("an if with " + expression + " is left out", x.tried(2, 4), 2);
        Due.plan(x, "stop " + expression + ";");
        Due.due("stuck with " + expression, x.tried(0, 0), 3);
        Due.due("stuck says nothing", x.tried(0, 4), -1);
    }

    private static void values() {
        says("1+2*3", 7);
        says("(1+2)*3", 9);
        says("10-4-3", 3);
        says("100/7/2", 7);
        says("(0-7)/2", -3);
        says("7/(0-2)", -3);
        says("2*3/4*2", 2);
        says("1<2", 1);
        says("2<=1", 0);
        says("2=2", 1);
        says("2<>2", 0);
        says("2>=3", 0);
        says("3>2", 1);
        says("5 and 7", 1);
        says("5 and 0", 0);
        says("0 or 7", 1);
        says("0 or 0", 0);
        says("not 5", 0);
        says("not 0", 1);
        says("not 1=2", 1);
        says("not 0 and 0", 0);
        says("1 or 1 and 0", 1);
        says("1+1=2 and 3>2", 1);
        says("low+100*high+100*100*span+falls", 202000);
        says("last+broke", 0);
        says("one+10*two+100*three", 2);
        says("999*999*999*999/1", 996005996001L);
        says("0-999*999*999*999", -996005996001L);
        says("(999-1)*0", 0);
    }

    private static void failures() {
        failing("1/0");
        failing("0 and 1/0");
        failing("1 or 1/0");
        failing("0*(1/0)");
        failing("999*999*999*999+999*999*999*999");
        failing("0-999*999*999*999-999*999*999*5");
        failing("999*999*999*999*999*999*999*999");
        failing("999*999*999*999*(999*999*999*999)");
        failing("(0-999*999*999*999)*(999*999*999*999)");
        // 10 to the 12 itself is no error, one more is
        says("500*500*500*500*16", 1000000000000L);
        says("0-500*500*500*500*16", -1000000000000L);
        failing("500*500*500*500*16+1");
        failing("0-500*500*500*500*16-1");
        says("500*500*500*500*16-1", 999999999999L);
        failing("(500*500*500*500*16+1)*0");
    }

    private static void wayUp() {
        HighFall x = new HighFall();
        Due.due("no plan", x.tried(99, 99), -2);
        Due.due("no plan to fall", x.fall(99, 99, 99), -2);
        Due.due("no plan to judge", x.judge(99), -2);
        Due.plan(x, "fall 0 low+1;");
        Due.due("known", x.tried(5, 0), 0);
        Due.due("falls", x.tried(5, 1), 6);
        Due.due("broken", x.tried(5, 2), 1);
        Due.due("cost", x.tried(5, 3), 7);
        Due.due("says", x.tried(5, 4), 5);
        Due.due("the top", x.tried(20, 2), 0);
        Due.due("t -1", x.tried(-1, 0), -1);
        Due.due("t 21", x.tried(21, 0), -1);
        Due.due("what -1", x.tried(0, -1), -1);
        Due.due("what 5", x.tried(0, 5), -1);
        for (int i = 0; i < 6; i++) {
            Due.due("kind of fall " + i, x.fall(5, i, 0), 0);
            Due.due("step of fall " + i, x.fall(5, i, 1), i + 1);
            Due.due("broke in fall " + i, x.fall(5, i, 2), i == 5 ? 1 : 0);
        }
        Due.due("no fall 6", x.fall(5, 6, 0), -1);
        Due.due("no fall -1", x.fall(5, -1, 0), -1);
        Due.due("no what 3", x.fall(5, 0, 3), -1);
        Due.due("no what -1", x.fall(5, 0, -1), -1);
        Due.due("no t", x.fall(21, 0, 0), -1);
        long[] judged = {20, 21, 230, 250, 0, 0};
        for (int what = 0; what < 6; what++) Due.due("judge " + what, x.judge(what), judged[what]);
        Due.due("judge 6", x.judge(6), -1);
        Due.due("judge -1", x.judge(-1), -1);
        x.cost(2, 3);
        // steps 1 .. 6 are 21 high
        Due.due("cost with climbs", x.tried(5, 3), 6 * 2 + 3 * 21 + 1);
        x.kind(0, 0, 2, 50);
        Due.due("cost with a dear piece", x.tried(5, 3), 6 * 2 + 3 * 21 + 50);
        x.weight(5, 0);
        x.weight(20, 10);
        // without 5 (6 falls), with 20 (20 falls) nine times more
        Due.due("falls by weights", x.judge(2), 230 - 6 + 9 * 20);
    }

    private static void toughKinds() {
        HighFall x = new HighFall();
        x.stair(5);
        x.kind(0, 2, 1, 1);
        x.kind(1, -1, 2, 4);
        Due.plan(x, "if falls=0 fall 0 4;if broke fall 1 low+1-1;fall 1 high-1;");
        // kind 0 from 4 parts T 0 .. 1 from 2 .. 5
        Due.due("T 2: it stays whole", x.fall(2, 0, 2), 0);
        Due.due("T 1: it breaks", x.fall(1, 0, 2), 1);
        // then low is 2, high is 5: kind 1 from 4 stays whole with T 5 alone
        Due.due("T 5 is known", x.tried(5, 0), 0);
        Due.due("T 5 by two falls", x.tried(5, 1), 2);
        Due.due("T 4: kind 1 breaks", x.fall(4, 1, 2), 1);
        // after a break of kind 1 the step is low+1-1 = 2, that is T 3
        Due.due("T 4: from 2", x.fall(4, 2, 1), 2);
        Due.due("T 4: whole", x.fall(4, 2, 2), 0);
        // behind T 1 the step is low = 0: no such step
        Due.due("T 1 is stuck", x.tried(1, 0), 3);
        Due.due("T 1 had a fall", x.tried(1, 1), 1);
        Due.due("T 1 broke a piece", x.tried(1, 2), 1);
        Due.due("T 1 cost", x.tried(1, 3), 2);
    }

    private static void stuck() {
        HighFall x = new HighFall();
        Due.plan(x, "");
        Due.due("no line", x.tried(0, 0), 3);
        Due.plan(x, "if 0 stop 0;");
        Due.due("no line that holds", x.tried(0, 0), 3);
        Due.plan(x, "fall 0 0;");
        Due.due("step 0", x.tried(0, 0), 3);
        Due.plan(x, "fall 0 21;");
        Due.due("step 21", x.tried(0, 0), 3);
        Due.plan(x, "fall 0 500*500*500*16;");
        Due.due("a step beyond an int", x.tried(0, 0), 3);
        Due.plan(x, "fall 1 1;");
        Due.due("no piece", x.tried(0, 0), 3);
        Due.plan(x, "fall 0 high;");
        Due.due("the second piece broke, too", x.tried(0, 2), 2);
        Due.due("stuck then", x.tried(0, 0), 3);
        Due.due("known before", x.tried(18, 0), 3);
        Due.due("known before", x.tried(19, 0), 0);
        Due.due("weights of the stuck", x.judge(5), 19);
        Due.due("the stuck say no other number", x.judge(4), 0);
        Due.plan(x, "fall 0 1;");
        Due.due("200 falls were", x.tried(1, 1), 200);
        Due.due("stuck after them", x.tried(1, 0), 3);
        Due.due("known at once", x.tried(0, 0), 0);
        Due.due("the last one", x.fall(1, 199, 1), 1);
        Due.due("no more", x.fall(1, 200, 1), -1);
        Due.plan(x, "if falls<200 fall 0 1;stop falls;");
        Due.due("it may stop then", x.tried(1, 4), 200);
        Due.plan(x, "if falls<199 fall 0 1;fall 0 20;");
        Due.due("the 200th makes it known", x.tried(20, 0), 0);
    }

    private static void stops() {
        HighFall x = new HighFall();
        x.weight(7, 5);
        Due.plan(x, "if low=0 and last=0 fall 0 7;stop 7*(1-broke);");
        Due.due("right", x.tried(7, 0), 1);
        Due.due("another number", x.tried(8, 0), 2);
        Due.due("what it says", x.tried(8, 4), 7);
        Due.due("broke: says 0", x.tried(6, 4), 0);
        Due.due("right with 0", x.tried(0, 0), 1);
        Due.due("weights of other numbers", x.judge(4), 19);
        Due.due("none is stuck", x.judge(5), 0);
        Due.due("falls", x.judge(2), 25);
        Due.plan(x, "stop 0-1;");
        Due.due("says -1", x.tried(3, 4), -1);
        Due.due("that is another number", x.tried(3, 0), 2);
        Due.plan(x, "if one=2 fall 0 10;if one=1 fall 0 5;stop one*100+falls*10+broke;");
        Due.due("pieces left", x.tried(3, 4), 21);
        Due.due("whole from 10, again and again", x.tried(10, 1), 200);
    }

    public static void main(String[] args) {
        values();
        failures();
        wayUp();
        toughKinds();
        stuck();
        stops();
        Due.end();
    }
}
