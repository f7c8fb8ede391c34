import java.lang.management.ManagementFactory;

/** All calls of one run live in one room: what an object takes stays far below it. */
public final class RoomTest {
    /** 7.3 million elements of four bytes would be 29 million; a run of all dear calls takes a part of that. */
    private static final long MOST_BYTES = 2_000_000;
    private static final long MOST_BYTES_NEW = 40_000;

    private static long taken() {
        return ((com.sun.management.ThreadMXBean) ManagementFactory.getThreadMXBean()).getCurrentThreadAllocatedBytes();
    }

    private static void dearCalls(HighFall x, int round) {
        x.stair(40 - round % 3);
        for (int kind = 0; kind < 3; kind++) x.kind(kind, kind - 1, 4, 10 + round);
        for (int law = 0; law < 4; law++) x.best(law);
        x.edge(round % 3, 2 + round % 2);
        x.weak(4, round % 4);
        x.rounds(9, 4);
        x.lies(1 + round % 7, 2);
        x.lies(7, round % 3);
        for (int i = 0; i < 40; i++) x.note(0, 0, 1, false);
        x.parts(0);
        x.begin(round);
        for (int i = 0; i < 10; i++) x.drop(0, 20);
        x.back();
    }

    public static void main(String[] args) {
        HighFall warm = new HighFall();
        dearCalls(warm, 1);
        long start = taken();
        HighFall x = new HighFall();
        long made = taken();
        Due.due("a new object takes little", made - start < MOST_BYTES_NEW, true);
        for (int round = 0; round < 6; round++) dearCalls(x, round);
        long end = taken();
        Due.due("dear calls use their rows again: " + (end - start), end - start < MOST_BYTES, true);
        start = taken();
        for (int round = 0; round < 6; round++) {
            x.stair(30);
            x.feed(0x66616c6c, 0x2030206c, 0x6f772b31, 0x3b202020, 0x20202020);
            x.plan(13);
            for (int what = 0; what < 6; what++) x.judge(what);
            for (int law = 0; law < 4; law++) x.best(law);
        }
        end = taken();
        Due.due("and nothing new behind that: " + (end - start), end - start < 20_000, true);
        Due.end();
    }
}
