import java.util.NoSuchElementException;
import java.util.Random;

/** Random runs of calls, the same ones each time, on HighFall and on SlowFall. */
public final class RandomRunsTest {
    private static final String[] CALLS = {"feed", "stair", "kind", "cost", "weight", "look", "likely",
        "plan", "fault", "tried", "fall", "judge", "best", "next", "edge", "weak", "rounds", "lies",
        "note", "strike", "fitting", "doubt", "least", "doubted", "parts", "begin", "drop", "back", "now", "count"};

    private final Random random;
    private final HighFall fast = new HighFall();
    private final SlowFall slow = new SlowFall();
    private final StringBuilder story = new StringBuilder();
    private int wrong = 0;

    private RandomRunsTest(long seed) {
        random = new Random(seed);
    }

    /** Mostly a number of the range, at times one about its edges, seldom any. */
    private int pick(int from, int to) {
        int dice = random.nextInt(40);
        if (dice == 0) return from - 1;
        if (dice == 1) return to + 1;
        if (dice == 2 && random.nextInt(4) == 0) return random.nextInt();
        return from + random.nextInt(to - from + 1);
    }

    private void same(String call, long got, long due) {
        story.append(call).append(" -> ").append(got).append('\n');
        if (got != due) {
            wrong++;
            System.out.println(call + " answered " + got + ", due is " + due);
        }
    }

    private static long asLong(boolean answer) {
        return answer ? 1 : 0;
    }

    private void tellPlan() {
        String text = new PlanTexts(random).text();
        int size = Math.min(text.length(), 400);
        int[] bytes = new int[(size + 19) / 20 * 20];
        for (int i = 0; i < bytes.length; i++) bytes[i] = i < size ? text.charAt(i) : ' ';
        for (int i = 0; i < bytes.length; i += 20) {
            int[] number = new int[5];
            for (int j = 0; j < 20; j++) number[j / 4] = number[j / 4] << 8 | bytes[i + j];
            same("feed", fast.feed(number[0], number[1], number[2], number[3], number[4]),
                    slow.feed(number[0], number[1], number[2], number[3], number[4]));
        }
        int told = random.nextInt(30) == 0 ? pick(0, 400) : size;
        same("plan " + text, fast.plan(told), slow.plan(told));
        same("fault 0", fast.fault(0), slow.fault(0));
        same("fault 1", fast.fault(1), slow.fault(1));
        same("count 1", fast.count(1), slow.count(1));
        same("count 2", fast.count(2), slow.count(2));
    }

    private void lookAt(int kind, int what) {
        same("look " + kind + " " + what, answerOrThrow(true, kind, what), answerOrThrow(false, kind, what));
    }

    private long answerOrThrow(boolean ofFast, int kind, int what) {
        try {
            return ofFast ? fast.look(kind, what) : slow.look(kind, what);
        } catch (IndexOutOfBoundsException e) {
            return -1001;
        } catch (NoSuchElementException e) {
            return -1002;
        }
    }

    private void callOnce(int call, int n) {
        int a;
        int b;
        int c;
        switch (CALLS[call]) {
            case "feed":
            case "plan":
                tellPlan();
                break;
            case "stair":
                if (random.nextInt(4) == 0) {
                    a = pick(1, random.nextInt(3) == 0 ? 40 : 12);
                    same("stair " + a, asLong(fast.stair(a)), asLong(slow.stair(a)));
                }
                break;
            case "kind":
                a = pick(0, 2);
                b = random.nextInt(3) == 0 ? pick(-9, 9) : pick(-2, 2);
                c = random.nextInt(3) == 0 ? pick(0, 4) : pick(0, 2);
                int p = random.nextInt(2) == 0 ? pick(0, 99) : pick(0, 9);
                same("kind " + a + " " + b + " " + c + " " + p, asLong(fast.kind(a, b, c, p)),
                        asLong(slow.kind(a, b, c, p)));
                break;
            case "cost":
                a = random.nextInt(2) == 0 ? pick(0, 99) : pick(0, 4);
                b = pick(0, 9);
                same("cost " + a + " " + b, asLong(fast.cost(a, b)), asLong(slow.cost(a, b)));
                break;
            case "weight":
                a = pick(0, n);
                b = random.nextInt(3) == 0 ? 0 : pick(0, 99);
                same("weight " + a + " " + b, asLong(fast.weight(a, b)), asLong(slow.weight(a, b)));
                break;
            case "look":
                lookAt(pick(0, 2), pick(0, 2));
                break;
            case "likely":
                a = pick(0, n);
                same("likely " + a, fast.likely(a), slow.likely(a));
                break;
            case "fault":
                a = pick(0, 1);
                same("fault " + a, fast.fault(a), slow.fault(a));
                break;
            case "tried":
                a = pick(0, n);
                for (b = -1; b <= 5; b++) same("tried " + a + " " + b, fast.tried(a, b), slow.tried(a, b));
                break;
            case "fall":
                a = pick(0, n);
                b = pick(0, 8);
                c = pick(0, 2);
                same("fall " + a + " " + b + " " + c, fast.fall(a, b, c), slow.fall(a, b, c));
                break;
            case "judge":
                a = pick(0, 5);
                same("judge " + a, fast.judge(a), slow.judge(a));
                break;
            default:
                callTables(CALLS[call], n);
                break;
        }
    }

    private void callTables(String call, int n) {
        int a;
        int b;
        switch (call) {
            case "best":
                a = pick(0, 3);
                same("best " + a, fast.best(a), slow.best(a));
                break;
            case "next":
                int low = pick(0, n);
                int high = low < 0 || low > n ? n : pick(low, n);
                int left = random.nextInt(3) == 0 && n < 13 ? pick(0, 124)
                        : pick(0, 2) + 5 * pick(0, 1) + 25 * pick(0, 1);
                a = pick(0, 3);
                for (b = -1; b <= 3; b++) {
                    same("next " + a + " " + low + " " + high + " " + left + " " + b,
                            fast.next(a, low, high, left, b), slow.next(a, low, high, left, b));
                }
                break;
            case "edge":
                a = pick(0, 2);
                b = pick(0, 3);
                if (n < 13 && random.nextInt(3) == 0) {
                    same("edge " + a + " " + b, fast.edge(a, b), slow.edge(a, b));
                }
                break;
            case "weak":
                a = pick(1, 4);
                b = pick(0, 3);
                same("weak " + a + " " + b, fast.weak(a, b), slow.weak(a, b));
                break;
            case "rounds":
                a = pick(1, 9);
                b = pick(1, 4);
                same("rounds " + a + " " + b, fast.rounds(a, b), slow.rounds(a, b));
                break;
            case "lies":
                a = pick(1, 4);
                b = pick(0, 2);
                same("lies " + a + " " + b, fast.lies(a, b), slow.lies(a, b));
                break;
            default:
                callNotes(call, n);
                break;
        }
    }

    private void callNotes(String call, int n) {
        int a = pick(0, n);
        switch (call) {
            case "note":
                int tester = pick(0, 5);
                int kind = pick(0, 2);
                int step = pick(1, n);
                boolean broke = random.nextInt(6) == 0 ? random.nextBoolean() : step > n / 2;
                same("note " + tester + " " + kind + " " + step + " " + broke,
                        fast.note(tester, kind, step, broke), slow.note(tester, kind, step, broke));
                break;
            case "strike":
                a = pick(0, Math.max(0, fast.count(3) - 1));
                same("strike " + a, fast.strike(a), slow.strike(a));
                break;
            case "fitting":
                a = random.nextInt(2) == 0 ? -1 : a;
                same("fitting " + a, fast.fitting(a), slow.fitting(a));
                break;
            case "doubt":
                same("doubt " + a, fast.doubt(a), slow.doubt(a));
                break;
            case "least":
                a = pick(0, 1);
                same("least " + a, fast.least(a), slow.least(a));
                break;
            case "doubted":
                a = pick(0, 5);
                same("doubted " + a, fast.doubted(a), slow.doubted(a));
                break;
            case "parts":
                a = pick(0, 2);
                same("parts " + a, fast.parts(a), slow.parts(a));
                break;
            default:
                callHand(call, n);
                break;
        }
    }

    private void callHand(String call, int n) {
        int a = pick(0, 6);
        switch (call) {
            case "begin":
                a = random.nextInt() & (random.nextInt(9) == 0 ? -1 : Integer.MAX_VALUE);
                same("begin " + a, asLong(fast.begin(a)), asLong(slow.begin(a)));
                break;
            case "drop":
                int kind = pick(0, 2);
                int step = pick(1, n);
                same("drop " + kind + " " + step, fast.drop(kind, step), slow.drop(kind, step));
                break;
            case "back":
                same("back", fast.back(), slow.back());
                break;
            case "now":
                for (int what = -1; what <= 6; what++) same("now " + what, fast.now(what), slow.now(what));
                break;
            default:
                same("count " + a, fast.count(a), slow.count(a));
                break;
        }
    }

    private boolean run() {
        if (random.nextInt(4) != 0) {
            int small = 1 + random.nextInt(10);
            fast.stair(small);
            slow.stair(small);
            story.append("stair ").append(small).append('\n');
        }
        for (int i = 0; i < 120 && wrong == 0; i++) {
            callOnce(random.nextInt(CALLS.length), fast.count(0));
        }
        if (wrong != 0) System.out.println("the run:\n" + story);
        return wrong == 0;
    }

    public static void main(String[] args) {
        int runs = args.length > 0 ? Integer.parseInt(args[0]) : 80;
        long first = args.length > 1 ? Long.parseLong(args[1]) : 1;
        for (long seed = first; seed < first + runs; seed++) {
            if (!new RandomRunsTest(seed).run()) {
                System.out.println("seed " + seed);
                System.exit(1);
            }
        }
        System.out.println(runs + " random runs agree");
    }
}
