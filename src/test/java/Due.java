import java.util.NoSuchElementException;
import java.util.function.IntPredicate;
import java.util.function.IntToLongFunction;

/** What the tests share: answers that are due, plans told as a text, and the end with its exit code. */
final class Due {
    private static int wrong = 0;
    private static int asked = 0;

    private Due() { }

    static void due(String call, long got, long want) {
        asked++;
        if (got != want) {
            wrong++;
            System.out.println(call + " answered " + got + ", due is " + want);
        }
    }

    static void due(String call, boolean got, boolean want) {
        due(call, got ? 1 : 0, want ? 1 : 0);
    }

    /** On both sides of each bound: the least and the most are taken, what lies beyond is not. */
    static void taken(String call, int least, int most, IntPredicate takes) {
        for (int number : new int[] {least, most}) due(call + " takes " + number, takes.test(number), true);
        for (int number : beyond(least, most)) due(call + " takes " + number, takes.test(number), false);
    }

    /** The same of a call that answers one number to all that it refuses, and to nothing else. */
    static void answered(String call, int least, int most, long refusal, IntToLongFunction answers) {
        for (int number : new int[] {least, most}) {
            due(call + " refuses " + number, answers.applyAsLong(number) == refusal, false);
        }
        for (int number : beyond(least, most)) due(call + " of " + number, answers.applyAsLong(number), refusal);
    }

    static int[] beyond(int least, int most) {
        return new int[] {least - 1, most + 1, Integer.MIN_VALUE, Integer.MAX_VALUE};
    }

    /** A trial by hand on a stair of n steps with the strength t, four pieces of kind 0 tough by d. */
    static HighFall handAt(int n, int t, int d) {
        HighFall x = new HighFall();
        x.stair(n);
        x.kind(0, d, 4, 1);
        for (int other = 0; other <= n; other++) x.weight(other, other == t ? 1 : 0);
        x.begin(0);
        return x;
    }

    /** Feeds the text, with blanks behind it up to the next twenty, and plans it. */
    static int plan(HighFall x, String text) {
        feed(x, text);
        return x.plan(text.length());
    }

    static int feed(HighFall x, String text) {
        int has = 0;
        for (int i = 0; i < text.length(); i += 20) {
            int[] number = new int[5];
            for (int j = 0; j < 20; j++) {
                int sign = i + j < text.length() ? text.charAt(i + j) : ' ';
                number[j / 4] = number[j / 4] << 8 | sign;
            }
            has = x.feed(number[0], number[1], number[2], number[3], number[4]);
        }
        return has;
    }

    static void fault(String text, int fault, int place) {
        HighFall x = new HighFall();
        due("plan of <" + text + ">", plan(x, text), HighFall.NONE);
        due("fault(0) of <" + text + ">", x.fault(0), fault);
        due("fault(1) of <" + text + ">", x.fault(1), place);
    }

    static void fine(String text, int lines, int knots) {
        HighFall x = new HighFall();
        due("plan of <" + text + ">", plan(x, text), lines);
        due("fault(0) of <" + text + ">", x.fault(0), 0);
        due("fault(1) of <" + text + ">", x.fault(1), HighFall.NONE);
        due("count(1) of <" + text + ">", x.count(1), lines);
        due("count(2) of <" + text + ">", x.count(2), knots);
    }

    /** 0 if look() answers, 1 for IndexOutOfBoundsException, 2 for NoSuchElementException. */
    static int lookThrows(HighFall x, int kind, int what) {
        try {
            x.look(kind, what);
            return 0;
        } catch (IndexOutOfBoundsException e) {
            return 1;
        } catch (NoSuchElementException e) {
            return 2;
        }
    }

    static void end() {
        System.out.println(wrong == 0 ? asked + " answers are as due" : wrong + " answers are not as due");
        if (wrong != 0) System.exit(1);
    }
}
