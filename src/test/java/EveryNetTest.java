import java.util.ArrayList;
import java.util.Arrays;
import java.util.List;
import java.util.Random;

/**
 * Every net that there can be, those that differ in the numbers of their points
 * taken once: what its shape is, what is barred, its least span, lines that it
 * can spare, and for each kind what is asked of all its labellings, without
 * labels and with some of them told, against plain lists of them.
 */
public final class EveryNetTest {
    private static final int KINDS = 5;
    private static final int TOLD_ROWS = 8;
    private static int asked = 0;
    private static int wrong = 0;
    private static int greatestSpan = 0;

    public static void main(String[] args) {
        int[] nets = new int[8];
        for (int n = 1; n <= 7; n++) {
            nets[n] = everyNet(n);
        }
        due("nets of 4 points", nets[4], 11);
        due("nets of 5 points", nets[5], 34);
        due("greatest span", greatestSpan, 11);
        askedAfterAnother();
        System.out.println(nets[7] + " nets of 7 points, " + asked + " answers looked at, " + wrong + " wrong");
        if (wrong != 0) {
            System.exit(1);
        }
    }

    private static void due(String what, int got, int want) {
        asked++;
        if (got != want) {
            wrong++;
            System.out.println(what + ": answered " + got + ", due is " + want);
        }
    }

    private static int everyNet(int n) {
        int twos = n * (n - 1) / 2;
        boolean[] met = new boolean[1 << twos];
        byte[] kindsOf = new byte[1 << twos];
        List<Integer> chosen = new ArrayList<>();
        List<int[]> orders = new ArrayList<>();
        addOrders(firstOrder(n), 0, orders);
        for (int net = 0; net < 1 << twos; net++) {
            if (!met[net] && Integer.bitCount(net) <= 10) {
                // Another order than the least one, so that lines do not crowd at the first points.
                chosen.add(renumbered(net, n, orders.get(net % orders.size())));
                byte kinds = askNet(new Given(n, chosen.get(chosen.size() - 1)));
                for (int[] order : orders) {
                    met[renumbered(net, n, order)] = true;
                    kindsOf[renumbered(net, n, order)] = kinds;
                }
            }
        }
        for (int net : chosen) {
            askSpares(new Given(n, net), net, kindsOf);
        }
        return chosen.size();
    }

    /** The net without a line is one of those looked at, so that its kinds are there. */
    private static void askSpares(Given g, int net, byte[] kindsOf) {
        FairLabels x = g.laid();
        x.sets(0, g.n - 1, 99);
        int[] spares = new int[KINDS];
        for (int rest = net, i = 0; rest != 0; rest &= rest - 1, i++) {
            int without = net & ~Integer.lowestOneBit(rest);
            for (int kind = 0; kind < KINDS; kind++) {
                spares[kind] |= (kindsOf[without] >> kind & 1) << i;
            }
        }
        for (int kind = 0; kind < KINDS; kind++) {
            due(g + " kind " + kind + " spares", x.spares(0, kind), spares[kind]);
        }
    }

    private static int[] firstOrder(int n) {
        int[] order = new int[n];
        for (int i = 0; i < n; i++) {
            order[i] = i;
        }
        return order;
    }

    private static void addOrders(int[] order, int at, List<int[]> all) {
        if (at == order.length) {
            all.add(order);
        }
        for (int i = at; i < order.length; i++) {
            int[] next = order.clone();
            next[at] = order[i];
            next[i] = order[at];
            addOrders(next, at + 1, all);
        }
    }

    private static int renumbered(int net, int n, int[] order) {
        int bits = 0;
        for (int a = 0, i = 0; a < n; a++) {
            for (int b = a + 1; b < n; b++, i++) {
                if ((net >> i & 1) != 0) {
                    int low = Math.min(order[a], order[b]);
                    int high = Math.max(order[a], order[b]);
                    bits |= 1 << low * (2 * n - 1 - low) / 2 + high - low - 1;
                }
            }
        }
        return bits;
    }

    /** Asks all of a net, and answers the kinds that it has, as bits. */
    private static byte askNet(Given g) {
        FairLabels x = g.laid();
        due(g + " tree", x.look(0, 3), g.isTree() ? 1 : 0);
        due(g + " two-sided", x.look(0, 4), g.isTwoSided() ? 1 : 0);
        due(g + " parts", x.look(0, 5), g.parts());
        int span = g.span();
        greatestSpan = Math.max(greatestSpan, span);
        due(g + " span", x.span(0), span);
        byte kinds = 0;
        for (int kind = 0; kind < KINDS; kind++) {
            List<int[]> all = g.labellings(kind);
            kinds |= (byte) (all.isEmpty() ? 0 : 1 << kind);
            askKind(g, kind, all);
            askTold(g, kind, all);
        }
        return kinds;
    }

    private static void askKind(Given g, int kind, List<int[]> all) {
        int[] none = new int[g.n];
        Arrays.fill(none, FairLabels.NONE);
        FairLabels x = g.laid();
        if (!all.isEmpty()) {
            due(g + " kind " + kind + " bars", x.bars(0, kind), 0);
        }
        askCompletions(x, g, kind, all, none);
        if (!all.isEmpty()) {
            askKey(x, g + " kind " + kind, kind, all);
        }
    }

    /** Labels of some points are told, most of them as one labelling has them. */
    private static void askTold(Given g, int kind, List<int[]> all) {
        Random r = new Random(31L * g.toString().hashCode() + kind);
        for (int i = 0; i < TOLD_ROWS; i++) {
            int[] told = new int[g.n];
            int[] like = all.isEmpty() ? told.clone() : all.get(r.nextInt(all.size()));
            for (int p = 0; p < g.n; p++) {
                boolean other = r.nextInt(8) == 0;
                told[p] = r.nextInt(3) > 0 ? FairLabels.NONE : other ? r.nextInt(22) : like[p];
            }
            FairLabels x = g.laid();
            List<int[]> left = new ArrayList<>();
            for (int p = 0; p < g.n; p++) {
                x.sets(0, p, told[p]);
            }
            for (int[] row : all) {
                if (agrees(row, told)) {
                    left.add(row);
                }
            }
            askCompletions(x, g, kind, left, told);
        }
    }

    private static boolean agrees(int[] row, int[] told) {
        for (int p = 0; p < row.length; p++) {
            if (told[p] != FairLabels.NONE && told[p] != row[p]) {
                return false;
            }
        }
        return true;
    }

    private static void askCompletions(FairLabels x, Given g, int kind, List<int[]> all, int[] told) {
        String of = g + " kind " + kind + " told " + Arrays.toString(told);
        due(of + " many", x.many(0, kind), all.size());
        due(of + " unlike", x.unlike(0, kind), unlike(g, kind, all, told));
        int sure = 0;
        int hint = FairLabels.NONE;
        int[] could = new int[g.n];
        for (int p = 0; p < g.n; p++) {
            for (int[] row : all) {
                could[p] |= 1 << row[p];
            }
            due(of + " could " + p, x.could(0, kind, p), could[p]);
            sure |= Integer.bitCount(could[p]) == 1 ? 1 << p : 0;
            if (told[p] == FairLabels.NONE
                && (hint == FairLabels.NONE || Integer.bitCount(could[p]) < Integer.bitCount(could[hint]))) {
                hint = p;
            }
        }
        due(of + " sure", x.sure(0, kind), sure);
        due(of + " hint", x.hint(0, kind), all.isEmpty() && hint != FairLabels.NONE ? -6 : hint);
        askRows(x, of, kind, all);
    }

    private static void askRows(FairLabels x, String of, int kind, List<int[]> all) {
        int points = x.look(0, 0);
        for (int p = 0; p < points; p++) {
            // Another row for each point, from the first to the last one.
            int i = points == 1 ? 0 : (int) ((long) p * (all.size() - 1) / (points - 1));
            if (i < all.size() && i >= 0) {
                due(of + " row " + i + " of " + p, x.row(0, kind, i, p), all.get(i)[p]);
            }
        }
        due(of + " row too many", x.row(0, kind, all.size(), 0), FairLabels.NONE);
    }

    private static void askKey(FairLabels x, String of, int kind, List<int[]> all) {
        int[] taken = all.get(all.size() * 2 / 3);
        due(of + " takes", x.takes(0, kind, all.size() * 2 / 3), taken.length);
        due(of + " why", x.why(0, kind), 0);
        int[] agreeing = new int[1 << taken.length];
        for (int[] row : all) {
            int same = 0;
            for (int p = 0; p < taken.length; p++) {
                same |= row[p] == taken[p] ? 1 << p : 0;
            }
            // All sets of points on which this one agrees.
            for (int some = same; ; some = some - 1 & same) {
                agreeing[some]++;
                if (some == 0) {
                    break;
                }
            }
        }
        int key = agreeing.length - 1;
        for (int some = 0; some < agreeing.length; some++) {
            if (agreeing[some] == 1 && Integer.bitCount(some) < Integer.bitCount(key)) {
                key = some;
            }
        }
        due(of + " key", x.key(0, kind), key);
        due(of + " no hint", x.hint(0, kind), FairLabels.NONE);
        due(of + " one is left", x.many(0, kind), 1);
    }

    /** Of those that are one another turned (or shifted), only the least that is there counts. */
    private static int unlike(Given g, int kind, List<int[]> all, int[] told) {
        int e = g.lines.size();
        int many = 0;
        for (int[] row : all) {
            boolean least = true;
            for (int more = 0; more < (kind == 2 ? e : 1); more++) {
                int[] other = new int[g.n];
                for (int p = 0; p < g.n; p++) {
                    int turned = (kind == 3 ? 2 * e - 1 : kind == 4 ? 1 : e) - row[p];
                    other[p] = kind == 2 ? (row[p] + more) % e : turned;
                }
                least &= Arrays.compare(row, other) <= 0 || !agrees(other, told);
            }
            many += least ? 1 : 0;
        }
        return many;
    }

    /** What one call leaves behind must not reach the next one on a smaller net. */
    private static void askedAfterAnother() {
        FairLabels x = new Given(7, 0).laid();
        x.family(0, 2, 0, 1);
        due("row of the last point", x.row(0, 4, 3, 6), 0);
        due("key of a smaller net", x.key(1, 0), 1);
    }

    /** A net as the test holds it, and plain searches on it. */
    private static final class Given {
        private static final int LIKE = -1;
        final int n;
        final List<int[]> lines = new ArrayList<>();

        Given(int points, int net) {
            n = points;
            for (int a = 0, i = 0; a < n; a++) {
                for (int b = a + 1; b < n; b++, i++) {
                    if ((net >> i & 1) != 0) {
                        lines.add(new int[] {a, b});
                    }
                }
            }
        }

        FairLabels laid() {
            FairLabels x = new FairLabels();
            int[] words = {'n' << 24 | 'e' << 16 | 't' << 8 | ' ', '0' + n << 24 | ';' << 16};
            x.feed(words[0], words[1], 0, 0, 0);
            x.end(6);
            due(this + " told", x.told(0), 0);
            for (int[] line : lines) {
                x.adds(0, line[1], line[0]);
            }
            return x;
        }

        int parts() {
            int[] part = firstOrder(n);
            int many = n;
            for (int[] line : lines) {
                int from = part[line[0]];
                int to = part[line[1]];
                many -= from == to ? 0 : 1;
                for (int p = 0; p < n; p++) {
                    part[p] = part[p] == from ? to : part[p];
                }
            }
            return many;
        }

        boolean isTree() {
            return parts() == 1 && lines.size() == n - 1;
        }

        boolean isTwoSided() {
            for (int sides = 0; sides < 1 << n; sides++) {
                boolean across = true;
                for (int[] line : lines) {
                    across &= (sides >> line[0] & 1) != (sides >> line[1] & 1);
                }
                if (across) {
                    return true;
                }
            }
            return false;
        }

        int span() {
            int m = 0;
            while (m <= 20 && !fits(new int[n], 0, m, 0, 0)) {
                m++;
            }
            return m > 20 ? FairLabels.NONE : m;
        }

        private boolean fits(int[] row, int p, int m, int used, int worths) {
            if (p == n) {
                return true;
            }
            for (int l = 0; l <= m; l++) {
                row[p] = l;
                int with = withWorthsOf(row, p, 0, worths);
                if ((used >> l & 1) == 0 && with != LIKE && fits(row, p + 1, m, used | 1 << l, with)) {
                    return true;
                }
            }
            return false;
        }

        List<int[]> labellings(int kind) {
            List<int[]> all = new ArrayList<>();
            int e = lines.size();
            int most = kind == 2 ? e - 1 : kind == 3 ? 2 * e - 1 : kind == 4 ? 1 : e;
            int repeats = kind == 4 ? n : kind == 2 && isTree() ? 1 : 0;
            addLabellings(new int[] {kind, most}, new int[n], 0, new int[] {0, 0, repeats}, all);
            return all;
        }

        /** There are so far: labels as bits, worths as bits, and how many labels may come again. */
        private void addLabellings(int[] asked, int[] row, int p, int[] there, List<int[]> all) {
            if (p == n) {
                if (hasShape(row, asked[0])) {
                    all.add(row.clone());
                }
                return;
            }
            for (int l = 0; l <= asked[1]; l++) {
                row[p] = l;
                int again = there[0] >> l & 1;
                int with = withWorthsOf(row, p, asked[0], there[1]);
                if (again <= there[2] && with != LIKE) {
                    addLabellings(asked, row, p + 1, new int[] {there[0] | 1 << l, with, there[2] - again}, all);
                }
            }
        }

        /** With the worths of lines from a point to those ahead of it; LIKE if one was there. */
        private int withWorthsOf(int[] row, int p, int kind, int worths) {
            int with = worths;
            for (int[] line : lines) {
                if (line[1] == p && kind != 4) {
                    int a = row[line[0]];
                    int b = row[p];
                    int bit = 1 << (kind == 2 ? (a + b) % lines.size() : Math.abs(a - b));
                    if ((with & bit) != 0 || kind == 3 && (a + b) % 2 == 0) {
                        return LIKE;
                    }
                    with |= bit;
                }
            }
            return with;
        }

        private boolean hasShape(int[] row, int kind) {
            int ones = 0;
            int odd = 0;
            boolean[] splits = new boolean[21];
            Arrays.fill(splits, true);
            for (int l : row) {
                ones += l;
            }
            for (int[] line : lines) {
                int a = Math.min(row[line[0]], row[line[1]]);
                int b = Math.max(row[line[0]], row[line[1]]);
                odd += b - a & 1;
                for (int k = 0; k <= 20; k++) {
                    splits[k] &= a <= k && k < b;
                }
            }
            boolean split = false;
            for (boolean one : splits) {
                split |= one;
            }
            return switch (kind) {
                case 1 -> split;
                case 3 -> odd == lines.size();
                case 4 -> Math.abs(n - 2 * ones) <= 1 && Math.abs(lines.size() - 2 * odd) <= 1;
                default -> true;
            };
        }

        @Override
        public String toString() {
            StringBuilder text = new StringBuilder("net " + n);
            for (int[] line : lines) {
                text.append(' ').append(line[0]).append('-').append(line[1]);
            }
            return text.toString();
        }
    }
}
