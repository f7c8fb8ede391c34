/** ==== 3 and promises 14 to 16: where a fall tells, when it can't be, of several as good the least, and edges. */
public final class BoundBestTest {
    private static HighFall stairOf(int n) {
        HighFall x = new HighFall();
        x.stair(n);
        return x;
    }

    /** "NONE: no such LAW", "NONE: no such ones": laws, spans, pieces left, what, kinds. */
    private static void refused() {
        HighFall x = stairOf(6);
        Due.answered("best's law", 0, 3, -1, law -> x.best(law));
        Due.answered("next's law", 0, 3, -1, law -> x.next(law, 0, 6, 2, 0));
        Due.answered("next's low", 0, 6, -1, low -> x.next(0, low, 6, 2, 0));
        Due.answered("next's high", 0, 6, -1, high -> x.next(0, 0, high, 2, 0));
        Due.answered("next's high from 4", 4, 6, -1, high -> x.next(0, 4, high, 2, 0));
        Due.answered("next's low to 4", 0, 4, -1, low -> x.next(0, low, 4, 2, 0));
        Due.answered("next's left", 0, 124, -1, left -> x.next(0, 0, 6, left, 0));
        Due.answered("next's what", 0, 2, -1, what -> x.next(0, 0, 6, 2, what));
        Due.answered("edge's kind", 0, 2, -1, kind -> x.edge(kind, 2));
        Due.answered("edge's law", 0, 3, -1, law -> x.edge(0, law));
        HighFall never = stairOf(6);
        never.kind(0, 0, 0, 1);
        Due.due("wrong ones are told before NEVER", never.best(4), -1);
        Due.due("of next, too", never.next(0, 0, 7, 0, 0), -1);
        Due.due("of edge, too", never.edge(3, 0), -1);
        for (int n : new int[] {1, 39, 40}) {
            HighFall y = stairOf(n);
            Due.answered("next's high of " + n, 0, n, -1, high -> y.next(0, 0, high, 2, 0));
        }
    }

    /** "(NONE: it is KNOWN, or NEVER). NEVER (of 0)": for each SPAN of one T. */
    private static void knownSpans() {
        HighFall x = stairOf(6);
        for (int law = 0; law < 4; law++) {
            for (int t = 0; t <= 6; t++) {
                Due.due("known", x.next(law, t, t, t * 20, 0), 0);
                Due.due("known: no kind", x.next(law, t, t, t * 20, 1), -1);
                Due.due("known: no step", x.next(law, t, t, t * 20, 2), -1);
            }
            for (int t = 0; t < 6; t++) {
                Due.due("no piece left", x.next(law, t, t + 1, 0, 0), HighFall.NEVER);
                Due.due("no piece left: no kind", x.next(law, t, t + 1, 0, 1), -1);
                Due.due("no piece left: no step", x.next(law, t, t + 1, 0, 2), -1);
                Due.due("one piece left", x.next(law, t, t + 1, 1, 2), t + 1);
            }
        }
    }

    /** "It TELLS if s less d is above low and at most high", "(TOUGH KINDS may have no STEP for a T.)" */
    private static void tells() {
        for (int d = -9; d <= 9; d++) {
            HighFall x = stairOf(12);
            x.kind(1, d, 1, 1);
            for (int t = 0; t < 12; t++) {
                int step = t + 1 + d;
                boolean can = step >= 1 && step <= 12;
                String name = "d " + d + ", T " + t + " and one more";
                Due.due(name, x.next(0, t, t + 1, 5, 0), can ? 1 : HighFall.NEVER);
                Due.due(name + ": kind", x.next(0, t, t + 1, 5, 1), can ? 1 : -1);
                Due.due(name + ": step", x.next(0, t, t + 1, 5, 2), can ? step : -1);
            }
            // one piece goes up through all steps that it needs, or there is no way
            Due.due("all T by d " + d, x.next(0, 0, 12, 5, 0), d == 0 ? 12 : HighFall.NEVER);
        }
        HighFall x = stairOf(12);
        x.kind(0, 0, 0, 1);
        for (int law = 0; law < 4; law++) {
            x.kind(1, 1, 4, 1);
            Due.due("no step for the topmost", x.best(law), HighFall.NEVER);
            x.kind(1, -1, 4, 1);
            Due.due("no step for the lowest", x.best(law), HighFall.NEVER);
            Due.due("but for the others", x.next(law, 1, 12, 20, 0) >= 0, true);
        }
    }

    /** "NEVER, if no way does": a lone T that can't be parted spoils the whole SPAN, weights or not. */
    private static void never() {
        HighFall x = stairOf(5);
        x.kind(0, 1, 2, 1);
        x.weight(5, 0);
        for (int law = 0; law < 4; law++) {
            Due.due("4 and 5 can't be parted", x.best(law), HighFall.NEVER);
            Due.due("no edge then", x.edge(0, law), -2);
            Due.due("up to 4 it can be", x.next(law, 0, 4, 2, 0) >= 0, true);
        }
        x.kind(1, 0, 1, 1);
        for (int law = 0; law < 4; law++) Due.due("another kind helps", x.best(law) >= 0, true);
        // one piece that breaks leaves none: a tough one can't go up alone, one without tough can
        HighFall y = stairOf(2);
        y.kind(0, 0, 0, 1);
        y.kind(2, -1, 4, 1);
        Due.due("T 1 has no step", y.best(0), HighFall.NEVER);
        y.kind(1, 0, 1, 1);
        Due.due("with one piece for T 1", y.best(0), 2);
    }

    /** "of several as good, the least KIND, then from the least STEP". */
    private static void asGood() {
        HighFall x = stairOf(3);
        for (int kind = 0; kind < 3; kind++) x.kind(kind, 0, 1, 1);
        for (int law = 0; law < 4; law++) {
            Due.due("the least kind", x.next(law, 0, 3, 31, 1), 0);
            Due.due("without kind 0", x.next(law, 0, 3, 30, 1), 1);
            Due.due("kind 2 alone", x.next(law, 0, 3, 25, 1), 2);
        }
        // two falls at worst: from 2 alone of three steps, from 1 or 2 of two steps
        Due.due("from 2", x.next(0, 0, 3, 31, 2), 2);
        Due.due("the least of 1 and 2", x.next(0, 0, 2, 31, 2), 1);
        Due.due("the least of 2 and 3", x.next(0, 1, 3, 31, 2), 2);
        // the least kind is taken though another one has a lesser step
        x.kind(1, -1, 1, 1);
        Due.due("kind 0 from 2", x.next(0, 1, 2, 6, 2), 2);
        Due.due("kind 1 from 1", x.next(0, 1, 2, 5, 2), 1);
        Due.due("kind before step", x.next(0, 1, 2, 6, 1), 0);
        // a price less is better, as good isn't
        x.kind(0, 0, 1, 8);
        x.kind(1, 0, 1, 8);
        Due.due("as dear: kind 0", x.next(2, 0, 1, 6, 1), 0);
        x.kind(1, 0, 1, 7);
        Due.due("cheaper: kind 1", x.next(2, 0, 1, 6, 1), 1);
        for (int t = 0; t <= 3; t++) x.weight(t, 0);
        Due.due("for nothing by the mean: kind 0", x.next(3, 0, 1, 6, 1), 0);
        Due.due("and step 1", x.next(3, 0, 3, 6, 2), 1);
    }

    /** "the greatest number of FALLS (COST), or the sum of WEIGHTS times that", at their greatest. */
    private static void greatest() {
        HighFall x = stairOf(40);
        x.kind(0, 0, 1, 99);
        x.cost(99, 9);
        for (int t = 0; t <= 40; t++) x.weight(t, 99);
        // one piece goes up: T breaks it from T and one more, T 40 never does
        long falls = 40;
        long cost = 0;
        long worst = 0;
        long mean = 0;
        for (int t = 0; t < 40; t++) {
            cost += 99 + 9 * (t + 1);
            falls += t + 1;
            mean += cost + 99;
            worst = cost + 99;
        }
        Due.due("worst falls", x.best(0), 40);
        Due.due("mean falls", x.best(1), 99 * falls);
        Due.due("worst cost", x.best(2), worst);
        Due.due("mean cost", x.best(3), 99 * (mean + cost));
        x.weight(40, 0);
        Due.due("without the last one", x.best(3), 99 * mean);
        for (int t = 0; t <= 40; t++) x.weight(t, 0);
        Due.due("without weights", x.best(3), 0);
        Due.due("the worst case needs none", x.best(2), worst);
        x.cost(0, 0);
        x.kind(0, 0, 1, 0);
        Due.due("for nothing", x.best(2), 0);
        Due.due("falls are falls", x.best(0), 40);
    }

    /** "the least greater one (to 99)", "100: none", "-2: NEVER". */
    private static void edges() {
        HighFall x = stairOf(1);
        for (int other = 0; other <= 99; other++) {
            x.kind(0, 0, 1, 0);
            x.kind(1, 0, 1, other);
            // kind 0 is first till it is dearer than kind 1
            Due.due("edge of 0 against " + other, x.edge(0, 2), other + 1);
        }
        // 98 is reached by 99, 99 by none: that would be 100
        x.kind(1, 0, 1, 98);
        x.kind(0, 0, 1, 98);
        Due.due("the last price", x.edge(0, 2), 99);
        x.kind(0, 0, 1, 99);
        Due.due("kind 1 is first, and 99 is as good for it as kind 0", x.edge(1, 2), 99);
        Due.due("no greater price than 99", x.edge(0, 2), 100);
        x.kind(1, 0, 1, 99);
        Due.due("both at 99", x.edge(0, 2) + x.edge(1, 2), 200);
        Due.due("prices stay as they were", x.look(0, 2) + x.look(1, 2), 198);
        // a price moves nothing where no piece is, or where falls alone count
        x.kind(0, 0, 1, 0);
        Due.due("no piece of kind 2", x.edge(2, 2), 100);
        Due.due("worst falls", x.edge(0, 0), 100);
        Due.due("mean falls", x.edge(0, 1), 100);
        Due.due("mean cost", x.edge(0, 3), 100);
        x.kind(1, 0, 1, 98);
        Due.due("mean cost to 99", x.edge(0, 3), 99);
        x.weight(0, 0);
        Due.due("nothing breaks by weights", x.edge(0, 3), 100);
        x.kind(0, 0, 0, 0);
        x.kind(1, 0, 0, 0);
        for (int law = 0; law < 4; law++) Due.due("NEVER", x.edge(1, law), -2);
    }

    /** "lets fall another KIND or from another STEP first": the step alone may move. */
    private static void edgeOfStep() {
        HighFall x = stairOf(3);
        x.kind(0, 0, 2, 0);
        for (int law = 2; law < 4; law++) {
            long before = x.next(law, 0, 3, 2, 2);
            int edge = x.edge(0, law);
            Due.due("there is an edge by " + law, edge > 0 && edge < 100, true);
            x.kind(0, 0, 2, edge - 1);
            Due.due("below it the same step", x.next(law, 0, 3, 2, 2), before);
            Due.due("and the same edge", x.edge(0, law), edge);
            x.kind(0, 0, 2, edge);
            Due.due("with it another one", x.next(law, 0, 3, 2, 2) != before, true);
            Due.due("of the same kind", x.next(law, 0, 3, 2, 1), 0);
            x.kind(0, 0, 2, 0);
        }
    }

    /** A price row: steps, f, c, then tough, pieces and price of each kind; 'moved' are the prices with another first fall. */
    private static void edgesAlong(int law, int kind, int[] row, int[] weights, int[] moved) {
        int next = 0;
        for (int price = 0; price <= 99; price++) {
            HighFall x = stairOf(row[0]);
            x.cost(row[1], row[2]);
            for (int t = 0; t < weights.length; t++) x.weight(t, weights[t]);
            for (int k = 0; k < 3; k++) x.kind(k, row[3 + 3 * k], row[4 + 3 * k], k == kind ? price : row[5 + 3 * k]);
            if (next < moved.length && moved[next] == price) next++;
            Due.due("edge by " + law + " from price " + price, x.edge(kind, law), next < moved.length ? moved[next] : 100);
        }
    }

    /** "the least greater one": also where a dearer price brings the first fall back. */
    private static void edgesThatComeBack() {
        int[] equal = {};
        edgesAlong(2, 1, new int[] {5, 4, 0, 0, 2, 11, 0, 2, 8, 0, 0, 19}, equal, new int[] {4, 5, 11});
        edgesAlong(2, 0, new int[] {5, 2, 1, 0, 2, 66, 0, 0, 14, 0, 0, 19}, equal, new int[] {4, 9, 11, 18});
        edgesAlong(2, 2, new int[] {5, 3, 5, 0, 2, 98, 0, 2, 17, -1, 2, 89}, equal, new int[] {2, 3, 16, 30, 48, 53});
        edgesAlong(2, 0, new int[] {6, 12, 3, 2, 2, 53, -2, 2, 42, -2, 1, 72}, equal, new int[] {30, 31, 39, 40, 57});
        edgesAlong(2, 2, new int[] {6, 2, 9, -2, 0, 88, -2, 2, 57, 0, 2, 24}, equal, new int[] {67, 68, 78});
        edgesAlong(2, 1, new int[] {4, 31, 9, 0, 1, 96, 1, 2, 19, 0, 0, 1}, equal, new int[] {53, 86, 87});
        edgesAlong(3, 1, new int[] {6, 1, 3, 0, 2, 3, -2, 2, 5, 0, 2, 24}, new int[] {15, 0, 0, 31, 21, 1, 69}, new int[] {18, 23, 24});
        edgesAlong(3, 2, new int[] {6, 1, 7, 2, 1, 51, 0, 1, 18, 1, 1, 96}, new int[] {2, 2, 3, 1, 2, 2, 1}, new int[] {4, 7});
        edgesAlong(3, 2, new int[] {6, 4, 3, 0, 0, 9, 0, 2, 14, 1, 2, 73}, new int[] {20, 47, 31, 1, 43, 49, 2}, new int[] {2, 4, 6});
        edgesAlong(3, 1, new int[] {4, 4, 1, -2, 1, 56, 0, 1, 18, -1, 1, 19}, new int[] {3, 2, 44, 72, 0}, new int[] {16, 40});
        edgesAlong(3, 2, new int[] {6, 0, 1, -2, 0, 3, 0, 1, 13, 2, 2, 89}, new int[] {1, 2, 3, 1, 45, 48, 0},
            new int[] {8, 75, 78, 81, 84, 89});
        // back after one price or two, where BEST bends: a stride that looks at its ends and middle alone would miss it
        edgesAlong(3, 0, new int[] {11, 20, 1, 0, 2, 0, 0, 0, 41, -1, 1, 9},
            new int[] {1, 3, 3, 73, 1, 69, 3, 0, 77, 4, 94, 67}, new int[] {7, 8, 9, 10});
        edgesAlong(3, 0, new int[] {10, 2, 3, -2, 1, 1, 0, 2, 2, 0, 1, 52},
            new int[] {0, 2, 33, 67, 44, 77, 47, 1, 6, 0, 0}, new int[] {19, 21, 35});
        edgesAlong(3, 1, new int[] {11, 4, 0, -2, 2, 70, 0, 2, 1, -2, 0, 41},
            new int[] {2, 1, 50, 77, 95, 4, 0, 2, 64, 40, 2, 69}, new int[] {5, 6, 69});
        edgesAlong(3, 1, new int[] {8, 3, 6, 0, 1, 18, 0, 2, 4, -2, 1, 18},
            new int[] {21, 3, 4, 2, 44, 2, 81, 67, 2}, new int[] {8, 9, 88});
    }

    /** One of the changes that tables must heed; each has an answer of its own on both sides. */
    private static void change(HighFall x, int which, boolean there) {
        switch (which) {
            case 0: x.stair(there ? 7 : 6); break;
            case 1: x.kind(0, 0, there ? 3 : 2, there ? 9 : 1); break;
            case 2: x.cost(there ? 5 : 1, there ? 2 : 0); break;
            default: x.weight(2, there ? 50 : 1); break;
        }
    }

    /** What best() answers is of the state as it is, whatever was asked before and in which order it was changed. */
    private static void changesBetweenAsks() {
        for (int first = 0; first < 4; first++) {
            for (int second = 0; second < 4; second++) {
                for (int third = 0; third < 4; third++) {
                    for (int law = 0; law < 4; law++) {
                        HighFall x = stairOf(6);
                        HighFall y = stairOf(6);
                        x.best(law);
                        for (int which : new int[] {first, second, third}) {
                            change(x, which, true);
                            change(y, which, true);
                        }
                        Due.due("best behind " + first + second + third, x.best(law), y.best(law));
                        change(x, second, false);
                        change(x, first, false);
                        HighFall z = stairOf(6);
                        for (int which : new int[] {first, second, third}) change(z, which, true);
                        change(z, second, false);
                        change(z, first, false);
                        Due.due("best behind going back", x.best(law), z.best(law));
                    }
                }
            }
        }
    }

    public static void main(String[] args) {
        refused();
        knownSpans();
        tells();
        never();
        asGood();
        greatest();
        edges();
        edgeOfStep();
        edgesThatComeBack();
        changesBetweenAsks();
        Due.end();
    }
}
