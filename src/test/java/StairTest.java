/** Promises 1 and 3 to 8, and 31: the stair, its kinds, costs and weights. */
public final class StairTest {
    private static void newObject() {
        HighFall x = new HighFall();
        int[] counts = {20, 0, 0, 0, 1, 0, 21};
        for (int what = 0; what < counts.length; what++) Due.due("new: count(" + what + ")", x.count(what), counts[what]);
        for (int kind = 0; kind < 3; kind++) {
            Due.due("new: tough", x.look(kind, 0), 0);
            Due.due("new: pieces", x.look(kind, 1), kind == 0 ? 2 : 0);
            Due.due("new: price", x.look(kind, 2), 1);
        }
        for (int t = 0; t <= 20; t++) Due.due("new: likely(" + t + ")", x.likely(t), 1);
        Due.due("new: no plan", x.tried(0, 0), -2);
        Due.due("new: fault(0)", x.fault(0), 0);
        Due.due("new: fault(1)", x.fault(1), -1);
        Due.due("new: no notes", x.fitting(-1), 21);
        Due.due("new: no trial", x.now(0), -1);
        Due.due("new: empty tape", x.plan(1), -2);
        Due.due("NONE", HighFall.NONE, -1);
        Due.due("NEVER", HighFall.NEVER, -2);
    }

    private static void stair() {
        HighFall x = new HighFall();
        for (int n : new int[] {0, -1, 41, Integer.MIN_VALUE, Integer.MAX_VALUE}) Due.due("stair " + n, x.stair(n), false);
        Due.due("N stays", x.count(0), 20);
        Due.plan(x, "stop 1;");
        Due.feed(x, "stop 2;");
        x.weight(3, 50);
        x.kind(1, 4, 3, 20);
        x.cost(7, 2);
        x.note(0, 0, 1, false);
        x.begin(3);
        Due.due("stair 99", x.stair(99), false);
        Due.due("the weight stays", x.likely(3), 50);
        Due.due("the note stays", x.count(3), 1);
        Due.due("the trial stays", x.now(1), 20);
        Due.due("stair 40", x.stair(40), true);
        Due.due("N", x.count(0), 40);
        Due.due("all weights are 1", x.likely(3), 1);
        Due.due("up to the top", x.likely(40), 1);
        Due.due("not above it", x.likely(41), -1);
        Due.due("all weights", x.count(6), 41);
        Due.due("no notes", x.count(3), 0);
        Due.due("no trial", x.now(0), -1);
        Due.due("the kind stays", x.look(1, 0) + x.look(1, 1) + x.look(1, 2), 27);
        Due.due("costs stay", x.count(4) * 10 + x.count(5), 72);
        Due.due("the plan stays", x.tried(1, 0), 1);
        Due.due("the tape stays", x.plan(7), 1);
        Due.due("stair 1", x.stair(1), true);
        Due.due("all weights of 1", x.count(6), 2);
        Due.due("one fall", x.best(0), 1);
        x.weight(1, 9);
        Due.due("the same stair again", x.stair(1), true);
        Due.due("its weights are 1, too", x.likely(1), 1);
    }

    private static void kind() {
        HighFall x = new HighFall();
        int[][] wrong = {{-1, 0, 1, 1}, {3, 0, 1, 1}, {0, -10, 1, 1}, {0, 10, 1, 1}, {0, 0, -1, 1}, {0, 0, 5, 1},
            {0, 0, 1, -1}, {0, 0, 1, 100}, {0, Integer.MIN_VALUE, 1, 1}};
        x.begin(0);
        for (int[] k : wrong) Due.due("wrong kind", x.kind(k[0], k[1], k[2], k[3]), false);
        Due.due("the trial stays", x.now(3), 2);
        Due.due("kind 0 stays", x.look(0, 0) * 100 + x.look(0, 1) * 10 + x.look(0, 2), 21);
        Due.due("least", x.kind(0, -9, 0, 0), true);
        Due.due("no trial then", x.now(3), -1);
        Due.due("least tough", x.look(0, 0), -9);
        Due.due("least pieces", x.look(0, 1), 0);
        Due.due("least price", x.look(0, 2), 0);
        Due.due("most", x.kind(2, 9, 4, 99), true);
        Due.due("most tough", x.look(2, 0), 9);
        Due.due("most pieces", x.look(2, 1), 4);
        Due.due("most price", x.look(2, 2), 99);
        Due.due("another kind", x.look(1, 1), 0);
        x.note(0, 2, 1, true);
        x.kind(2, 0, 0, 0);
        Due.due("notes stay", x.count(3), 1);
    }

    private static void costAndWeight() {
        HighFall x = new HighFall();
        Due.due("cost -1", x.cost(-1, 0), false);
        Due.due("cost 100", x.cost(100, 0), false);
        Due.due("climb -1", x.cost(0, -1), false);
        Due.due("climb 10", x.cost(0, 10), false);
        Due.due("costs stay", x.count(4) * 10 + x.count(5), 10);
        Due.due("cost 99 9", x.cost(99, 9), true);
        Due.due("fall", x.count(4), 99);
        Due.due("climb", x.count(5), 9);
        Due.due("cost 0 0", x.cost(0, 0), true);
        Due.due("nothing", x.count(4) + x.count(5), 0);
        Due.due("weight of -1", x.weight(-1, 1), false);
        Due.due("weight of 21", x.weight(21, 1), false);
        Due.due("weight -1", x.weight(0, -1), false);
        Due.due("weight 100", x.weight(0, 100), false);
        Due.due("all stay", x.count(6), 21);
        Due.due("weight 99", x.weight(20, 99), true);
        Due.due("weight 0", x.weight(0, 0), true);
        Due.due("likely 20", x.likely(20), 99);
        Due.due("likely 0", x.likely(0), 0);
        Due.due("likely -1", x.likely(-1), -1);
        Due.due("likely 21", x.likely(21), -1);
        Due.due("all", x.count(6), 99 + 19);
        x.begin(1);
        x.cost(5, 5);
        x.weight(1, 5);
        Due.due("a trial goes on", x.now(2), 0);
    }

    private static void look() {
        HighFall x = new HighFall();
        Due.due("look 0 2", Due.lookThrows(x, 0, 2), 0);
        Due.due("look -1 0", Due.lookThrows(x, -1, 0), 1);
        Due.due("look 3 0", Due.lookThrows(x, 3, 0), 1);
        Due.due("look 0 -1", Due.lookThrows(x, 0, -1), 2);
        Due.due("look 2 3", Due.lookThrows(x, 2, 3), 2);
        Due.due("look 3 3", Due.lookThrows(x, 3, 3), 1);
        Due.due("count -1", x.count(-1), -1);
        Due.due("count 7", x.count(7), -1);
    }

    public static void main(String[] args) {
        newObject();
        stair();
        kind();
        costAndWeight();
        look();
        Due.end();
    }
}
