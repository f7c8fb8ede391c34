import java.util.LinkedHashMap;
import java.util.Map;
import java.util.Set;
import java.util.TreeSet;
import java.util.function.Supplier;
import java.util.function.ToLongFunction;

/**
 * A refused call changes nothing, an ask changes nothing, and a call that is taken changes what the document
 * says and no more: each time two objects are made alike, one of them gets the call, and their stories are compared.
 */
public final class RefusedTest {
    private static final int[] FAR = {Integer.MIN_VALUE, Integer.MAX_VALUE};

    // ---- scenes

    private static HighFall fresh() {
        return new HighFall();
    }

    /** Of everything some: a plan, a fault behind it, a tape, notes with a strike, a trial by hand with falls. */
    private static HighFall lived() {
        HighFall x = new HighFall();
        x.stair(6);
        x.kind(0, 1, 2, 5);
        x.kind(1, -1, 3, 7);
        x.kind(2, 0, 1, 0);
        x.cost(3, 2);
        for (int t = 0; t <= 6; t++) x.weight(t, 3 + 5 * t);
        Due.plan(x, "if falls=0 fall 0 3;if two>0 fall 1 low+1;if three fall 2 high;stop low;");
        Due.plan(x, "stop 1;stop 1000;");
        Due.feed(x, "stop 5;");
        x.note(0, 0, 3, false);
        x.note(1, 1, 4, true);
        x.note(2, 2, 2, true);
        x.strike(2);
        x.begin(12);
        x.drop(1, 2);
        x.drop(0, 6);
        return x;
    }

    /** All that can be full is full: the tape, the notes, the falls by hand. */
    private static HighFall full() {
        HighFall x = new HighFall();
        x.stair(40);
        Due.plan(x, "fall 0 low+1;");
        for (int i = 0; i < 20; i++) Due.feed(x, i == 19 ? "stop 7;" : " ");
        for (int i = 0; i < 40; i++) {
            if (i % 3 == 2) x.strike(i - 2);
            else x.note(i % 6, i % 3, 1 + i, i > 20);
        }
        for (int t = 0; t < 40; t++) x.weight(t, 0);
        x.begin(3);
        x.weight(7, 9);
        for (int i = 0; i < 100; i++) x.drop(0, 1 + i % 40);
        return x;
    }

    /** No weights, no pieces: no trial can begin, none goes on, nothing is ever known. */
    private static HighFall bare() {
        HighFall x = new HighFall();
        x.stair(3);
        x.begin(2);
        for (int i = 0; i < 2; i++) x.drop(0, 3);
        for (int t = 0; t <= 3; t++) x.weight(t, 0);
        x.note(0, 0, 1, true);
        x.note(0, 0, 1, false);
        return x;
    }

    // ---- what is compared

    private static void refused(Supplier<HighFall> scene, String name, long refusal, ToLongFunction<HighFall> call) {
        HighFall x = scene.get();
        for (int i = 0; i < 2; i++) Due.due(name, call.applyAsLong(x), refusal);
        Set<String> unlike = new Story(scene.get()).unlike(new Story(x));
        Due.due(name + " is refused and yet changes " + unlike, unlike.size(), 0);
    }

    private static void asked(Supplier<HighFall> scene, String name, ToLongFunction<HighFall> call) {
        HighFall x = scene.get();
        long first = call.applyAsLong(x);
        Due.due(name + " answers the same again", call.applyAsLong(x), first);
        Set<String> unlike = new Story(scene.get()).unlike(new Story(x));
        Due.due(name + " asks and yet changes " + unlike, unlike.size(), 0);
    }

    private static void changes(Supplier<HighFall> scene, String name, String parts, ToLongFunction<HighFall> call) {
        HighFall x = scene.get();
        call.applyAsLong(x);
        Set<String> unlike = new Story(scene.get()).unlike(new Story(x));
        Set<String> due = new TreeSet<>(Set.of(parts.split(" ")));
        Due.due(name + " changes " + unlike + ", due is " + due, unlike.equals(due), true);
    }

    private static long one(boolean answer) {
        return answer ? 1 : 0;
    }

    // ---- refused calls

    private static void refusedSettings(Supplier<HighFall> scene, int n) {
        for (int wrong : new int[] {0, -1, 41, FAR[0], FAR[1]}) refused(scene, "stair " + wrong, 0, x -> one(x.stair(wrong)));
        for (int kind : Due.beyond(0, 2)) refused(scene, "kind " + kind, 0, x -> one(x.kind(kind, 2, 1, 9)));
        for (int kind = 0; kind < 3; kind++) {
            int k = kind;
            for (int d : Due.beyond(-9, 9)) refused(scene, "tough " + d, 0, x -> one(x.kind(k, d, 1, 9)));
            for (int p : Due.beyond(0, 4)) refused(scene, "pieces " + p, 0, x -> one(x.kind(k, 2, p, 9)));
            for (int p : Due.beyond(0, 99)) refused(scene, "price " + p, 0, x -> one(x.kind(k, 2, 1, p)));
        }
        for (int f : Due.beyond(0, 99)) refused(scene, "fall's cost " + f, 0, x -> one(x.cost(f, 4)));
        for (int c : Due.beyond(0, 9)) refused(scene, "climb's cost " + c, 0, x -> one(x.cost(8, c)));
        for (int t : Due.beyond(0, n)) refused(scene, "weight of T " + t, 0, x -> one(x.weight(t, 8)));
        for (int w : Due.beyond(0, 99)) {
            for (int t : new int[] {0, n}) refused(scene, "weight " + w, 0, x -> one(x.weight(t, w)));
        }
        for (int kind : Due.beyond(0, 2)) refused(scene, "look at kind " + kind, 1, x -> Due.lookThrows(x, kind, 0));
        for (int what : Due.beyond(0, 2)) refused(scene, "look for what " + what, 2, x -> Due.lookThrows(x, 0, what));
        for (int t : Due.beyond(0, n)) refused(scene, "likely " + t, -1, x -> x.likely(t));
        for (int what : Due.beyond(0, 6)) refused(scene, "count " + what, -1, x -> x.count(what));
    }

    private static void refusedPlans(Supplier<HighFall> scene, int n, int taped, boolean planned) {
        for (int size : Due.beyond(0, taped)) refused(scene, "plan " + size, -2, x -> x.plan(size));
        for (int what : Due.beyond(0, 1)) refused(scene, "fault " + what, -1, x -> x.fault(what));
        int refusal = planned ? -1 : -2;
        for (int t : Due.beyond(0, n)) {
            refused(scene, "tried T " + t, refusal, x -> x.tried(t, 0));
            refused(scene, "fall of T " + t, refusal, x -> x.fall(t, 0, 0));
        }
        for (int what : Due.beyond(0, 4)) refused(scene, "tried for " + what, refusal, x -> x.tried(0, what));
        for (int what : Due.beyond(0, 2)) refused(scene, "fall for " + what, refusal, x -> x.fall(0, 0, what));
        for (int i : new int[] {-1, 200, FAR[0], FAR[1]}) refused(scene, "fall " + i, refusal, x -> x.fall(0, i, 0));
        for (int what : Due.beyond(0, 5)) refused(scene, "judge " + what, refusal, x -> x.judge(what));
    }

    private static void refusedTables(Supplier<HighFall> scene, int n) {
        for (int law : Due.beyond(0, 3)) {
            refused(scene, "best " + law, -1, x -> x.best(law));
            refused(scene, "next by " + law, -1, x -> x.next(law, 0, n, 1, 0));
            refused(scene, "edge by " + law, -1, x -> x.edge(0, law));
        }
        for (int t : Due.beyond(0, n)) {
            refused(scene, "next from " + t, -1, x -> x.next(0, t, n, 1, 0));
            refused(scene, "next to " + t, -1, x -> x.next(0, 0, t, 1, 0));
        }
        refused(scene, "next from above to below", -1, x -> x.next(0, n, n - 1, 1, 0));
        for (int left : Due.beyond(0, 124)) refused(scene, "next with " + left, -1, x -> x.next(0, 0, n, left, 0));
        for (int what : Due.beyond(0, 2)) refused(scene, "next for " + what, -1, x -> x.next(0, 0, n, 1, what));
        for (int kind : Due.beyond(0, 2)) refused(scene, "edge of " + kind, -1, x -> x.edge(kind, 2));
        for (int p : Due.beyond(1, 4)) refused(scene, "weak pieces " + p, -1, x -> x.weak(p, 1));
        for (int w : Due.beyond(0, 3)) refused(scene, "weak by " + w, -1, x -> x.weak(1, w));
        for (int p : Due.beyond(1, 9)) refused(scene, "rounds of " + p, -1, x -> x.rounds(p, 1));
        for (int b : Due.beyond(1, 4)) refused(scene, "rounds by " + b, -1, x -> x.rounds(1, b));
        for (int p : Due.beyond(1, 7)) refused(scene, "lies on " + p, -1, x -> x.lies(p, 1));
        for (int l : Due.beyond(0, 2)) refused(scene, "lies " + l, -1, x -> x.lies(1, l));
    }

    private static void refusedNotes(Supplier<HighFall> scene, int n, int notes) {
        for (int tester : Due.beyond(0, 5)) refused(scene, "note of tester " + tester, -1, x -> x.note(tester, 0, 1, true));
        for (int kind : Due.beyond(0, 2)) refused(scene, "note of kind " + kind, -1, x -> x.note(0, kind, 1, true));
        for (int step : Due.beyond(1, n)) refused(scene, "note of step " + step, -1, x -> x.note(0, 0, step, true));
        for (int note : Due.beyond(0, notes - 1)) refused(scene, "strike " + note, -1, x -> x.strike(note));
        for (int k : new int[] {-2, 41, FAR[0], FAR[1]}) refused(scene, "fitting " + k, -1, x -> x.fitting(k));
        for (int t : Due.beyond(0, n)) refused(scene, "doubt " + t, -1, x -> x.doubt(t));
        for (int what : Due.beyond(0, 1)) refused(scene, "least " + what, -1, x -> x.least(what));
        for (int tester : Due.beyond(0, 5)) refused(scene, "doubted " + tester, -1, x -> x.doubted(tester));
        for (int kind : Due.beyond(0, 2)) refused(scene, "parts " + kind, -1, x -> x.parts(kind));
    }

    private static void refusedHand(Supplier<HighFall> scene, int n) {
        for (int seed : new int[] {-1, FAR[0]}) refused(scene, "begin " + seed, 0, x -> one(x.begin(seed)));
        for (int kind : Due.beyond(0, 2)) refused(scene, "drop of kind " + kind, -1, x -> x.drop(kind, 1));
        for (int kind = 0; kind < 3; kind++) {
            int k = kind;
            for (int step : Due.beyond(1, n)) refused(scene, "drop from " + step, -1, x -> x.drop(k, step));
        }
        for (int what : Due.beyond(0, 5)) refused(scene, "now " + what, -1, x -> x.now(what));
    }

    private static void refusedByState() {
        refused(RefusedTest::full, "a tape that is full", -1, x -> Due.feed(x, "stop 9;"));
        refused(RefusedTest::full, "a 41st note", -1, x -> x.note(0, 0, 1, true));
        refused(RefusedTest::full, "a 41st strike", -1, x -> x.strike(0));
        refused(RefusedTest::full, "a 101st fall", -1, x -> x.drop(0, 20));
        refused(RefusedTest::bare, "begin without weights", 0, x -> one(x.begin(1)));
        refused(RefusedTest::bare, "drop without a piece", -1, x -> x.drop(0, 1));
        refused(RefusedTest::bare, "parts of nothing", -1, x -> x.parts(0));
        refused(RefusedTest::bare, "the first of nothing", -1, x -> x.fitting(0));
        refused(RefusedTest::bare, "next that can't be", -2, x -> x.next(0, 0, 3, 0, 0));
        refused(RefusedTest::fresh, "drop without a trial", -1, x -> x.drop(0, 1));
        refused(RefusedTest::fresh, "back without a trial", -1, x -> x.back());
        refused(RefusedTest::fresh, "now without a trial", -1, x -> x.now(0));
        refused(RefusedTest::fresh, "strike of none", -1, x -> x.strike(0));
        refused(() -> { HighFall x = lived(); x.begin(1); return x; }, "back without a fall", -1, x -> x.back());
    }

    // ---- asks

    private static void asks(Supplier<HighFall> scene, int n) {
        Map<String, ToLongFunction<HighFall>> asks = new LinkedHashMap<>();
        for (int law = 0; law < 4; law++) {
            int by = law;
            asks.put("best " + law, x -> x.best(by));
            for (int what = 0; what < 3; what++) {
                int of = what;
                asks.put("next by " + law + " for " + what, x -> x.next(by, n > 1 ? 1 : 0, n, 63, of));
            }
            for (int kind = 0; kind < 3; kind++) {
                int of = kind;
                asks.put("edge of " + kind + " by " + law, x -> x.edge(of, by));
            }
        }
        for (int what = 0; what < 7; what++) {
            int of = what;
            asks.put("count " + what, x -> x.count(of));
            asks.put("now " + what, x -> x.now(of));
            asks.put("judge " + what, x -> x.judge(of));
            asks.put("tried " + what, x -> x.tried(n, of));
            asks.put("fall " + what, x -> x.fall(n, 1, of));
            asks.put("fault " + what, x -> x.fault(of));
            asks.put("least " + what, x -> x.least(of));
            asks.put("doubted " + what, x -> x.doubted(of));
            asks.put("parts " + what, x -> x.parts(of));
            asks.put("doubt " + what, x -> x.doubt(of));
            asks.put("fitting " + what, x -> x.fitting(of - 1));
            asks.put("likely " + what, x -> x.likely(of));
            asks.put("look " + what, x -> x.look(of % 3, of / 3));
            asks.put("weak " + what, x -> x.weak(1 + of / 2, of % 4));
            asks.put("rounds " + what, x -> x.rounds(1 + of, 1 + of % 4));
            asks.put("lies " + what, x -> x.lies(1 + of, of % 3));
        }
        asks.forEach((name, ask) -> asked(scene, name, ask));
    }

    // ---- calls that are taken

    private static void takenCalls() {
        Supplier<HighFall> lived = RefusedTest::lived;
        changes(lived, "stair 6", "weights notes hand doubts parts trials best", x -> one(x.stair(6)));
        changes(lived, "stair 5", "N weights notes hand doubts parts trials best", x -> one(x.stair(5)));
        changes(lived, "another price of kind 1", "kinds hand trials best", x -> one(x.kind(1, -1, 3, 8)));
        changes(lived, "another tough of kind 2, its note struck", "kinds hand parts trials best", x -> one(x.kind(2, 3, 1, 0)));
        changes(lived, "the same kind again", "hand", x -> one(x.kind(1, -1, 3, 7)));
        changes(lived, "cost", "costs trials best", x -> one(x.cost(4, 2)));
        changes(lived, "climb", "costs trials best", x -> one(x.cost(3, 1)));
        changes(lived, "weight", "weights trials best", x -> one(x.weight(6, 34)));
        changes(lived, "feed", "tape", x -> Due.feed(x, "fall"));
        changes(lived, "a plan", "plan fault tape trials", x -> x.plan(7));
        changes(lived, "a plan of no lines", "plan fault tape trials", x -> x.plan(0));
        changes(lived, "a fault", "fault tape", x -> x.plan(6));
        changes(lived, "a note", "notes doubts parts", x -> x.note(3, 0, 5, false));
        changes(lived, "a strike", "notes doubts parts", x -> x.strike(0));
        changes(lived, "a strike of what is struck", "notes", x -> x.strike(2));
        changes(lived, "begin", "hand", x -> one(x.begin(13)));
        changes(lived, "drop", "hand", x -> x.drop(1, 1));
        changes(lived, "back", "hand", x -> x.back());
    }

    public static void main(String[] args) {
        String[] names = {"fresh", "lived", "full", "bare"};
        int[] steps = {20, 6, 40, 3};
        int[] taped = {0, 20, 400, 0};
        int[] notes = {0, 4, 40, 2};
        for (int i = 0; i < names.length; i++) {
            int which = i;
            Supplier<HighFall> scene = () -> which == 0 ? fresh() : which == 1 ? lived() : which == 2 ? full() : bare();
            refusedSettings(scene, steps[i]);
            refusedPlans(scene, steps[i], taped[i], which == 1 || which == 2);
            refusedTables(scene, steps[i]);
            refusedNotes(scene, steps[i], notes[i]);
            refusedHand(scene, steps[i]);
            asks(scene, steps[i]);
        }
        refusedByState();
        takenCalls();
        Due.end();
    }
}
