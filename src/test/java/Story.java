import java.util.LinkedHashMap;
import java.util.Map;
import java.util.Set;
import java.util.TreeSet;

/**
 * What an object tells of itself, under a name for each part of its state. The asking itself uses the
 * object up (falls are taken back, the tape is planned), so a twin is made for each story.
 */
final class Story {
    private final Map<String, StringBuilder> parts = new LinkedHashMap<>();

    Story(HighFall x) {
        int n = x.count(0);
        tell("N", n);
        tell("plan", x.count(1), x.count(2));
        tell("fault", x.fault(0), x.fault(1));
        tell("costs", x.count(4), x.count(5));
        for (int t = 0; t <= n; t++) tell("weights", x.likely(t));
        tell("weights", x.count(6));
        for (int kind = 0; kind < 3; kind++) tell("kinds", x.look(kind, 0), x.look(kind, 1), x.look(kind, 2));
        tell("notes", x.count(3));
        tellDoubts(x, n);
        tellTrials(x, n);
        for (int law = 0; law < 4; law++) tell("best", x.best(law));
        tell("best", x.edge(0, 3), x.weak(2, 1), x.rounds(3, 2), x.lies(2, 1));
        tellHand(x);
        tellTape(x);
    }

    private void tell(String part, long... answers) {
        StringBuilder told = parts.computeIfAbsent(part, name -> new StringBuilder());
        for (long answer : answers) told.append(answer).append(' ');
    }

    private void tellDoubts(HighFall x, int n) {
        for (int t = 0; t <= n; t++) tell("doubts", x.doubt(t));
        for (int tester = 0; tester < 6; tester++) tell("doubts", x.doubted(tester));
        tell("doubts", x.fitting(-1), x.fitting(0), x.least(0), x.least(1));
        for (int kind = 0; kind < 3; kind++) tell("parts", x.parts(kind));
    }

    private void tellTrials(HighFall x, int n) {
        for (int t : new int[] {0, 1, n / 2, n}) {
            for (int what = 0; what < 5; what++) tell("trials", x.tried(t, what));
            for (int what = 0; what < 3; what++) tell("trials", x.fall(t, 0, what), x.fall(t, 1, what));
        }
        for (int what = 0; what < 6; what++) tell("trials", x.judge(what));
    }

    private void tellHand(HighFall x) {
        for (int i = 0; i < 4; i++) {
            for (int what = 0; what < 6; what++) tell("hand", x.now(what));
            tell("hand", x.back());
        }
    }

    /** How many bytes there are, and what they say as a plan. */
    private void tellTape(HighFall x) {
        int has = x.feed(0x20202020, 0x20202020, 0x20202020, 0x20202020, 0x20202020);
        tell("tape", has);
        tell("tape", x.plan(has < 0 ? 400 : has), x.fault(0), x.fault(1), x.count(2), x.tried(0, 4));
        tell("tape", x.plan(1));
    }

    /** The names of what the other one tells otherwise. */
    Set<String> unlike(Story other) {
        Set<String> names = new TreeSet<>();
        for (Map.Entry<String, StringBuilder> part : parts.entrySet()) {
            if (!part.getValue().toString().equals(other.parts.get(part.getKey()).toString())) names.add(part.getKey());
        }
        return names;
    }
}
