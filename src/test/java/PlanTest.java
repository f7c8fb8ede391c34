/** Promises 2, 9 and 10: the tape, the plan's text and its faults. */
public final class PlanTest {
    private static void tape() {
        HighFall x = new HighFall();
        for (int i = 1; i <= 20; i++) Due.due("feed " + i, x.feed(0x73746f70, 0x20313b20, 0x20202020, 0x20202020, 0x20202020), 20 * i);
        Due.due("feed 21", x.feed(1, 2, 3, 4, 5), -1);
        Due.due("plan(401)", x.plan(401), -2);
        Due.due("plan(-1)", x.plan(-1), -2);
        Due.due("fault of none", x.fault(0), 0);
        Due.due("400 bytes are 20 lines", x.plan(400), -1);
        Due.due("the 13th line", x.fault(0), 2);
        Due.due("its place", x.fault(1), 240);
        Due.due("the tape is empty", x.plan(1), -2);
        Due.due("plan(-2) leaves the fault", x.fault(1), 240);
        Due.due("feed anew", x.feed(0x73746f70, 0x20313b66, 0x616c6c20, 0, -1), 20);
        Due.due("the first bytes alone", x.plan(7), 1);
        Due.due("the rest is gone", x.plan(1), -2);
        Due.due("feed high bytes", x.feed(-1, -1, -1, -1, -1), 20);
        Due.due("they are no tokens", x.plan(20), -1);
        Due.due("at 0", x.fault(1), 0);
        Due.due("what is wrong", x.fault(0), 1);
        Due.due("fault(2)", x.fault(2), -1);
        Due.due("fault(-1)", x.fault(-1), -1);
        Due.due("the plan ahead stays", x.count(1), 1);
        Due.due("and its knots", x.count(2), 1);
        Due.due("plan(0)", x.plan(0), 0);
        Due.due("no fault", x.fault(0), 0);
        Due.due("no place", x.fault(1), -1);
        Due.due("no lines", x.count(1), 0);
        Due.due("no knots", x.count(2), 0);
    }

    private static void fineTexts() {
        Due.fine("", 0, 0);
        Due.fine(" \n ", 0, 0);
        Due.fine("stop 1;", 1, 1);
        Due.fine("stop1;", 1, 1);
        Due.fine("fall2low;", 1, 1);
        Due.fine("fall 02 0000999;", 1, 1);
        Due.fine("if low<high fall 0 low+1;stop high;", 2, 7);
        Due.fine("if not not low=high and not(1)or 2<>3fall 1(((low)));", 1, 13);
        Due.fine("stop low<=1;stop low>=1;stop low<>1;stop low<1;stop low>1;stop low=1;", 6, 18);
        Due.fine("stop (1<2)<(3<4);", 1, 7);
        Due.fine("stop 1<(2<3);", 1, 5);
        Due.fine("stop 1<2 and 3<4 or 5<6;", 1, 11);
        Due.fine("stop 8/4/2*3-1-1+span;", 1, 13);
        Due.fine("stop (not 1)+2;", 1, 4);
        Due.fine("stop ((((((((1))))))))+((((((((1))))))));", 1, 3);
        Due.fine("stop 1;".repeat(12), 12, 12);
        Due.fine("stop 1" + "+1".repeat(31) + ";stop 0;", 2, 64);
        Due.fine("stop " + "not ".repeat(63) + "three;", 1, 64);
        Due.fine("fall 0 one;fall 1 two;fall 2 three;stop falls;stop last;stop broke;", 6, 6);
    }

    private static void wrongTokens() {
        Due.fault("fal 0 5;", 1, 0);
        Due.fault("Stop 1;", 1, 0);
        Due.fault("stop 1", 1, 6);
        Due.fault("stop 1  ", 1, 8);
        Due.fault("stop", 1, 4);
        Due.fault("if", 1, 2);
        Due.fault("if 1", 1, 4);
        Due.fault("if 1;", 1, 4);
        Due.fault("if 1 if 1 stop 1;", 1, 5);
        Due.fault("fall", 1, 4);
        Due.fault("fall low;", 1, 5);
        Due.fault("fall 1", 1, 6);
        Due.fault("fall 0;", 1, 6);
        Due.fault(";", 1, 0);
        Due.fault("stop 1;;", 1, 7);
        Due.fault("1;", 1, 0);
        Due.fault("stop -1;", 1, 5);
        Due.fault("stop 1 2;", 1, 7);
        Due.fault("stop low1;", 1, 8);
        Due.fault("stop lowhigh;", 1, 5);
        Due.fault("stop lows;", 1, 5);
        Due.fault("stop ();", 1, 6);
        Due.fault("stop (1;", 1, 7);
        Due.fault("stop 1);", 1, 6);
        Due.fault("if (1 stop 2);", 1, 6);
        Due.fault("if (1 fall 0 1;", 1, 6);
        Due.fault("stop 1 stop 2;", 1, 7);
        Due.fault("stop 1 fall 0 2;", 1, 7);
        Due.fault("stop 1<2<3;", 1, 8);
        Due.fault("stop not 1<2=3;", 1, 12);
        Due.fault("stop 1< =2;", 1, 8);
        Due.fault("stop 1=<2;", 1, 7);
        Due.fault("stop 1><2;", 1, 7);
        Due.fault("stop 1<>=2;", 1, 8);
        Due.fault("stop 1>>2;", 1, 7);
        Due.fault("stop 1+not 2;", 1, 7);
        Due.fault("stop 1<not 2;", 1, 7);
        Due.fault("stop 2*not 2;", 1, 7);
        Due.fault("stop 1 not 2;", 1, 7);
        Due.fault("stop and 1;", 1, 5);
        Due.fault("stop 1 and;", 1, 10);
        Due.fault("stop\t1;", 1, 4);
        Due.fault("stop 1.5;", 1, 6);
        Due.fault("stop 1;stop 2;!", 1, 14);
        Due.fault("stop stop;", 1, 5);
    }

    private static void tooMuch() {
        Due.fault("stop 1000;", 2, 5);
        Due.fault("stop 99999999999999999999;", 2, 5);
        Due.fault("fall 3 1;", 2, 5);
        Due.fault("fall 4294967296 1;", 2, 5);
        Due.fault("stop 1;".repeat(12) + "stop 1;", 2, 84);
        Due.fault("stop 1;".repeat(12) + " if 1 stop 1;", 2, 85);
        Due.fault("stop 1;".repeat(12) + "low", 1, 84);
        Due.fault("stop (((((((((1", 2, 13);
        Due.fault("stop ((((((((1))))))))+(((((((((1", 2, 31);
        Due.fault("stop ((((((((1(", 1, 14);
        Due.fault("stop 1" + "+1".repeat(32) + ";", 2, 69);
        Due.fault("stop 1" + "+1".repeat(31) + "<2;", 2, 69);
        Due.fault("stop " + "not ".repeat(64) + "low;", 2, 261);
        Due.fault("stop " + "not ".repeat(65) + "low;", 2, 261);
        Due.fault("stop 1" + "+1".repeat(31) + "*2", 2, 69);
        Due.fault("stop " + "not ".repeat(64) + ";", 1, 261);
        Due.fault("stop " + "not ".repeat(64) + "1000;", 2, 261);
        Due.fault("stop 1 1000;", 1, 7);
        Due.fault("fall 1000 1;", 2, 5);
        Due.fault("stop 1000 !", 2, 5);
        Due.fault("stop ! 1000", 1, 5);
    }

    public static void main(String[] args) {
        tape();
        fineTexts();
        wrongTokens();
        tooMuch();
        Due.end();
    }
}
