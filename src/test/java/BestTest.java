/** Promises 14 to 16: the best ways by each law, their first fall, and the edge of a price. */
public final class BestTest {
    private static void worstFalls() {
        HighFall x = new HighFall();
        Due.due("two pieces, 20 steps", x.best(0), 6);
        // with two pieces r falls part r (r + 1) / 2 steps
        for (int n = 1; n <= 40; n++) {
            x.stair(n);
            int falls = 0;
            while (falls * (falls + 1) / 2 < n) falls++;
            Due.due("two pieces, " + n + " steps", x.best(0), falls);
        }
        x.kind(0, 0, 1, 1);
        Due.due("one piece", x.best(0), 40);
        x.kind(0, 0, 4, 1);
        Due.due("four pieces", x.best(0), 6);
        x.kind(1, 0, 4, 1);
        x.kind(2, 0, 4, 1);
        Due.due("twelve pieces", x.best(0), 6);
        x.kind(0, 0, 0, 1);
        x.kind(1, 0, 0, 1);
        x.kind(2, 0, 0, 1);
        for (int law = 0; law < 4; law++) Due.due("no piece", x.best(law), HighFall.NEVER);
        Due.due("law -1", x.best(-1), -1);
        Due.due("law 4", x.best(4), -1);
    }

    private static void lawsOfThree() {
        HighFall x = new HighFall();
        x.stair(3);
        Due.due("mean falls", x.best(1), 8);
        Due.due("worst cost", x.best(2), 4);
        Due.due("mean cost", x.best(3), 12);
        Due.due("first by worst cost", x.next(2, 0, 3, 2, 2), 1);
        x.weight(0, 0);
        x.weight(1, 0);
        Due.due("T without weight must be known, too", x.best(1), 4);
        for (int t = 0; t <= 3; t++) x.weight(t, 0);
        Due.due("no weights", x.best(1), 0);
        Due.due("then the least step of all", x.next(1, 0, 3, 2, 2), 1);
        x.kind(0, 0, 0, 1);
        Due.due("but NEVER stays NEVER", x.best(1), HighFall.NEVER);
        x.kind(0, 0, 2, 1);
        x.cost(0, 0);
        x.kind(0, 0, 2, 0);
        Due.due("nothing costs anything", x.best(2), 0);
        x.cost(10, 5);
        x.kind(0, 0, 1, 7);
        // one piece goes up: 15 + 20 + 25, and the price if the last one breaks
        Due.due("climbs", x.best(2), 67);
        for (int t = 0; t <= 3; t++) x.weight(t, t + 1);
        // T 0: 22, T 1: 15 + 27, T 2: 35 + 32, T 3: 60
        Due.due("mean with climbs", x.best(3), 22 + 2 * 42 + 3 * 67 + 4 * 60);
        Due.due("mean falls by weights", x.best(1), 1 + 2 * 2 + 3 * 3 + 4 * 3);
    }

    private static void firstFall() {
        HighFall x = new HighFall();
        Due.due("least step of several", x.next(0, 0, 20, 2, 2), 5);
        Due.due("kind", x.next(0, 0, 20, 2, 1), 0);
        Due.due("more pieces than there are", x.next(0, 0, 20, 4, 0), 5);
        Due.due("pieces of other kinds", x.next(0, 0, 20, 50, 1), 2);
        Due.due("the same by either kind", x.next(0, 0, 20, 30, 1), 1);
        Due.due("known: 0", x.next(3, 7, 7, 0, 0), 0);
        Due.due("known: no kind", x.next(3, 7, 7, 124, 1), -1);
        Due.due("known: no step", x.next(3, 7, 7, 124, 2), -1);
        Due.due("NEVER", x.next(3, 7, 8, 0, 0), HighFall.NEVER);
        Due.due("NEVER: no kind", x.next(3, 7, 8, 0, 1), -1);
        Due.due("NEVER: no step", x.next(3, 7, 8, 0, 2), -1);
        Due.due("one step", x.next(0, 7, 8, 1, 2), 8);
        int[][] wrong = {{-1, 0, 20, 2, 0}, {4, 0, 20, 2, 0}, {0, -1, 20, 2, 0}, {0, 0, 21, 2, 0}, {0, 3, 2, 2, 0},
            {0, 0, 20, -1, 0}, {0, 0, 20, 125, 0}, {0, 0, 20, 2, -1}, {0, 0, 20, 2, 3}, {0, 21, 21, 2, 0}};
        for (int[] w : wrong) Due.due("wrong next", x.next(w[0], w[1], w[2], w[3], w[4]), -1);
        Due.due("as best", x.next(1, 0, 20, 2, 0), x.best(1));
    }

    private static void toughKinds() {
        HighFall x = new HighFall();
        x.stair(3);
        x.kind(0, 0, 0, 1);
        x.kind(1, 2, 1, 5);
        // tough by 2: T 0 .. 1 alone can be parted from the rest
        Due.due("no step for T 2", x.best(0), HighFall.NEVER);
        Due.due("there is one for T 1", x.next(0, 0, 1, 5, 0), 1);
        Due.due("it is step 3", x.next(0, 0, 1, 5, 2), 3);
        Due.due("none above", x.next(0, 1, 2, 5, 0), HighFall.NEVER);
        x.kind(1, -2, 1, 5);
        Due.due("weak by 2: T 3 from step 1", x.next(0, 2, 3, 5, 2), 1);
        Due.due("none below", x.next(0, 1, 2, 5, 0), HighFall.NEVER);
        x.kind(0, 1, 1, 1);
        // tough by 1 parts T 1 and T 2 by steps 2 and 3, the other T 3 by step 1
        Due.due("both together", x.best(0), 3);
        Due.due("the one that parts 3 first", x.next(0, 0, 3, 6, 1), 0);
        Due.due("from step 2", x.next(0, 0, 3, 6, 2), 2);
        x.kind(0, 9, 4, 1);
        Due.due("tough by 9 has no step here", x.next(0, 0, 3, 4, 0), HighFall.NEVER);
    }

    private static void edges() {
        HighFall x = new HighFall();
        Due.due("law 0 has none", x.edge(0, 0), 100);
        Due.due("law 1 has none", x.edge(0, 1), 100);
        Due.due("no piece of it", x.edge(1, 2), 100);
        int[][] wrong = {{-1, 0}, {3, 0}, {0, -1}, {0, 4}};
        for (int[] w : wrong) Due.due("wrong edge", x.edge(w[0], w[1]), -1);
        x.stair(3);
        x.kind(0, 0, 2, 0);
        Due.due("free pieces: from 2 first", x.next(3, 0, 3, 2, 2), 2);
        Due.due("for 1 from 1 first", x.edge(0, 3), 1);
        x.kind(0, 0, 2, 99);
        Due.due("no greater price", x.edge(0, 3), 100);
        x.kind(0, 0, 0, 1);
        Due.due("NEVER", x.edge(0, 2), -2);
        Due.due("NEVER by any law", x.edge(2, 0), -2);
        x.stair(1);
        x.kind(0, 0, 1, 10);
        x.kind(1, 0, 1, 30);
        // the cheaper one falls first; of as good ones the least kind
        Due.due("till the other is cheaper", x.edge(0, 2), 31);
        Due.due("kind 1 only grows dearer", x.edge(1, 2), 100);
        x.weight(0, 0);
        Due.due("it never breaks by weights", x.edge(0, 3), 100);
        x.kind(1, 0, 1, 9);
        Due.due("kind 1 first", x.next(2, 0, 1, 6, 1), 1);
        Due.due("kind 0 is as good for 10", x.edge(1, 2), 10);
        Due.due("the price stays", x.look(1, 2), 9);
        Due.due("tables stay right behind it", x.best(2), 10);
    }

    /** The edge again, price by price with next() on another object. */
    private static void edgesByPrices() {
        java.util.Random random = new java.util.Random(7);
        for (int i = 0; i < 300; i++) {
            HighFall x = new HighFall();
            int n = 1 + random.nextInt(i % 10 == 0 ? 40 : 14);
            x.stair(n);
            x.cost(random.nextInt(i % 2 == 0 ? 100 : 4), random.nextInt(i % 3 == 0 ? 10 : 2));
            for (int t = 0; t <= n && i % 4 != 0; t++) x.weight(t, random.nextInt(i % 5 == 0 ? 3 : 100));
            int left = 0;
            for (int k = 0, unit = 1; k < 3; k++, unit *= 5) {
                int pieces = random.nextInt(i % 6 == 0 ? 5 : 3);
                left += unit * pieces;
                x.kind(k, random.nextInt(2) * (random.nextInt(7) - 3), pieces, random.nextInt(i % 2 == 0 ? 100 : 10));
            }
            int kind = random.nextInt(3);
            int law = 2 + random.nextInt(2);
            Due.due("edge " + i, x.edge(kind, law), edgeByPrices(x, kind, law, left));
        }
    }

    private static int edgeByPrices(HighFall x, int kind, int law, int left) {
        int n = x.count(0);
        long firstKind = x.next(law, 0, n, left, 1);
        long firstStep = x.next(law, 0, n, left, 2);
        if (firstKind < 0) return -2;
        for (int price = x.look(kind, 2) + 1; price <= 99; price++) {
            x.kind(kind, x.look(kind, 0), x.look(kind, 1), price);
            if (x.next(law, 0, n, left, 1) != firstKind || x.next(law, 0, n, left, 2) != firstStep) return price;
        }
        return 100;
    }

    /** What was worked out before a change must not be told behind it. */
    private static void staleTables() {
        HighFall x = new HighFall();
        x.stair(10);
        long before = x.best(3);
        x.cost(2, 0);
        Due.due("cost is heeded", x.best(3) != before, true);
        before = x.best(3);
        x.weight(4, 9);
        Due.due("weight is heeded", x.best(3) != before, true);
        before = x.best(3);
        x.kind(0, 0, 2, 9);
        Due.due("price is heeded", x.best(3) != before, true);
        x.kind(0, 1, 2, 9);
        Due.due("tough is heeded", x.best(3), HighFall.NEVER);
        x.stair(1);
        Due.due("stair is heeded", x.next(0, 0, 1, 2, 0), HighFall.NEVER);
        x.stair(2);
        Due.due("and again", x.next(0, 0, 1, 2, 2), 2);
    }

    public static void main(String[] args) {
        worstFalls();
        lawsOfThree();
        firstFall();
        toughKinds();
        edges();
        edgesByPrices();
        staleTables();
        Due.end();
    }
}
