import java.util.ArrayList;
import java.util.List;
import java.util.Random;

/**
 * Long random runs of calls, each answer against a slow model written straight
 * from the document: it lists all completions and looks at the list.
 */
public final class OracleTest {
    private static int wrong = 0;
    private static int calls = 0;

    public static void main(String[] args) {
        for (int seed = 0; seed < 100; seed++) {
            oneRun(new Random(seed), seed);
        }
        System.out.println(calls + " calls, " + wrong + " answers are not as due");
        if (wrong != 0) {
            System.exit(1);
        }
    }

    private static void oneRun(Random r, int seed) {
        FairLabels x = new FairLabels();
        Model m = new Model();
        StringBuilder log = new StringBuilder();
        for (int i = 0; i < 300; i++) {
            if (!oneCall(r, x, m, log)) {
                System.out.println("seed " + seed + ", call " + i + log);
                wrong++;
                return;
            }
        }
    }

    private static int slot(Random r) {
        return r.nextInt(12) == 0 ? r.nextInt(6) - 2 : r.nextInt(3);
    }

    private static int kind(Random r) {
        return r.nextInt(20) == 0 ? r.nextInt(9) - 2 : r.nextInt(5);
    }

    private static int point(Random r) {
        return r.nextInt(15) == 0 ? r.nextInt(12) - 3 : r.nextInt(7);
    }

    private static int what(Random r, int most) {
        return r.nextInt(most + 3) - 1;
    }

    private static boolean same(StringBuilder log, String call, int got, int want) {
        calls++;
        log.append("\n  ").append(call).append(" = ").append(got);
        if (got != want) {
            log.append(", due is ").append(want);
        }
        return got == want;
    }

    private static boolean oneCall(Random r, FairLabels x, Model m, StringBuilder log) {
        int s = slot(r);
        int k = kind(r);
        int p = point(r);
        int q = point(r);
        int i = r.nextInt(10) == 0 ? r.nextInt(40) - 10 : r.nextInt(6);
        int which = r.nextInt(46);
        switch (which) {
            case 0: case 1: case 2:
                return tellText(r, x, m, log, s);
            case 3:
                return same(log, "fault", x.fault(i - 1), m.fault(i - 1));
            case 4:
                return same(log, "count", x.count(i - 1), m.count(i - 1));
            case 5: {
                int w = what(r, 7);
                return same(log, "look " + s + " " + w, x.look(s, w), m.look(s, w));
            }
            case 6: {
                int w = what(r, 1);
                return same(log, "line " + s + " " + i + " " + w, x.line(s, i, w), m.line(s, i, w));
            }
            case 7: case 8: case 9: case 10:
                return same(log, "adds " + s + " " + p + " " + q, x.adds(s, p, q), m.adds(s, p, q));
            case 11:
                return same(log, "cuts " + s + " " + p + " " + q, x.cuts(s, p, q), m.cuts(s, p, q));
            case 12:
                return same(log, "label " + s + " " + p, x.label(s, p), m.label(s, p));
            case 13: case 14: {
                int l = r.nextInt(10) == 0 ? r.nextInt(120) - 10 : r.nextInt(9) - 1;
                return same(log, "sets " + s + " " + p + " " + l, x.sets(s, p, l), m.sets(s, p, l));
            }
            case 15: {
                int w = what(r, 1);
                return same(log, "worth " + s + " " + i + " " + w, x.worth(s, i, w), m.worth(s, i, w));
            }
            case 16: {
                int w = what(r, 1);
                return same(log, "seen " + s + " " + w, x.seen(s, w), m.seen(s, w));
            }
            case 17: {
                int w = what(r, 1);
                return same(log, "total " + s + " " + w, x.total(s, w), m.total(s, w));
            }
            case 18:
                return same(log, "is " + s + " " + k, x.is(s, k), m.is(s, k));
            case 19: case 20:
                return same(log, "why " + s + " " + k, x.why(s, k), m.why(s, k));
            case 21:
                return same(log, "many " + s + " " + k, x.many(s, k), m.many(s, k));
            case 22: {
                int at = place(r, m, s, k);
                return same(log, "row " + s + " " + k + " " + at + " " + p, x.row(s, k, at, p), m.row(s, k, at, p));
            }
            case 23: case 24: {
                int at = place(r, m, s, k);
                return same(log, "takes " + s + " " + k + " " + at, x.takes(s, k, at), m.takes(s, k, at));
            }
            case 25:
                return same(log, "could " + s + " " + k + " " + p, x.could(s, k, p), m.could(s, k, p));
            case 26:
                return same(log, "sure " + s + " " + k, x.sure(s, k), m.sure(s, k));
            case 27:
                return same(log, "unlike " + s + " " + k, x.unlike(s, k), m.unlike(s, k));
            case 28:
                return same(log, "hint " + s + " " + k, x.hint(s, k), m.hint(s, k));
            case 29:
                return same(log, "key " + s + " " + k, x.key(s, k), m.key(s, k));
            case 30:
                return same(log, "spares " + s + " " + k, x.spares(s, k), m.spares(s, k));
            case 31:
                return same(log, "bars " + s + " " + k, x.bars(s, k), m.bars(s, k));
            case 32:
                return same(log, "span " + s, x.span(s), m.span(s));
            case 33:
                return same(log, "reverse " + s, x.reverse(s), m.reverse(s));
            case 34:
                return same(log, "mirrors " + s, x.mirrors(s), m.mirrors(s));
            case 35:
                return same(log, "sprouts " + s, x.sprouts(s), m.sprouts(s));
            case 36:
                return same(log, "edge " + s, x.edge(s), m.edge(s));
            case 37: case 38: {
                int o = slot(r);
                int t = slot(r);
                return same(log, "grafts " + s + " " + o + " " + t, x.grafts(s, o, t), m.grafts(s, o, t));
            }
            case 39: {
                int w = what(r, 4);
                int n = r.nextInt(9);
                int mm = r.nextInt(8) - 1;
                return same(log, "family " + w + " " + n + " " + mm + " " + s, x.family(w, n, mm, s), m.family(w, n, mm, s));
            }
            case 40: {
                int a = r.nextInt() & r.nextInt() | (r.nextBoolean() ? 0xff00ff00 : 0);
                int b = r.nextBoolean() ? -1 : r.nextInt();
                int c = r.nextBoolean() ? -1 : r.nextInt() & 0x0f0f0f0f;
                return same(log, "rule " + a + " " + b + " " + c, x.rule(a, b, c), m.rule(a, b, c));
            }
            case 41:
                return r.nextInt(4) > 0 || same(log, "drops " + s, x.drops(s), m.drops(s));
            case 44: {
                boolean good = true;
                for (int at = 0; good && at < 7; at++) {
                    good = same(log, "sets " + s + " " + at + " -1", x.sets(s, at, -1), m.sets(s, at, -1));
                }
                return good;
            }
            case 42:
                return same(log, "undo", x.undo(), m.undo());
            default: {
                int w = what(r, 1);
                boolean good = same(log, "tell " + s + " " + w, x.tell(s, w), m.tell(s, w));
                for (int at = -1; good && at <= m.out.length(); at++) {
                    good = same(log, "octet " + at, x.octet(at), m.octet(at));
                }
                return good;
            }
        }
    }

    private static int place(Random r, Model m, int s, int k) {
        int many = m.many(s, k);
        return many <= 0 || r.nextInt(6) == 0 ? r.nextInt(5) - 1 : r.nextInt(many + 1);
    }

    private static boolean tellText(Random r, FairLabels x, Model m, StringBuilder log, int slot) {
        String text = text(r);
        log.append("\n  text '").append(text).append("'");
        boolean good = true;
        for (int i = 0; i < text.length() && good; i += 20) {
            int[] w = new int[5];
            for (int j = 0; j < 20; j++) {
                int b = i + j < text.length() ? text.charAt(i + j) : r.nextInt(256);
                w[j / 4] = w[j / 4] << 8 | b;
            }
            good = same(log, "feed", x.feed(w[0], w[1], w[2], w[3], w[4]), m.feed(w));
        }
        int n = r.nextInt(10) == 0 ? r.nextInt(text.length() + 30) - 5 : Math.min(text.length(), m.tape.length());
        return good && same(log, "end " + n, x.end(n), m.end(n))
            && same(log, "told " + slot, x.told(slot), m.told(slot))
            && same(log, "fault 0", x.fault(0), m.fault(0))
            && same(log, "fault 1", x.fault(1), m.fault(1));
    }

    /** A net without faults: a tree, one with two sides, or any; some labels. */
    private static String goodText(Random r) {
        int n = 1 + r.nextInt(7);
        int shape = r.nextInt(3);
        List<String> lines = new ArrayList<>();
        int cut = 1 + r.nextInt(n);
        for (int b = 1; b < n; b++) {
            int must = r.nextInt(b);
            for (int a = 0; a < b; a++) {
                boolean on = shape == 0 ? a == must : r.nextInt(5) < 3 && (shape == 1 || a < cut != b < cut);
                if (on && lines.size() < 10) {
                    lines.add(r.nextBoolean() ? a + "-" + b : b + "-" + a);
                }
            }
        }
        java.util.Collections.shuffle(lines, r);
        StringBuilder b = new StringBuilder("net ").append(n);
        b.append(lines.isEmpty() ? "" : ":").append(String.join(",", lines)).append(";");
        for (int p = 0; p < n; p++) {
            if (r.nextInt(6) == 0) {
                b.append("labels ").append(p).append("=").append(r.nextInt(1 + lines.size())).append(";");
            }
        }
        return b.toString();
    }

    private static String text(Random r) {
        if (r.nextBoolean()) {
            return goodText(r);
        }
        StringBuilder b = new StringBuilder();
        int n = r.nextInt(20) == 0 ? r.nextInt(12) : 1 + r.nextInt(7);
        gap(r, b).append("net");
        gap(r, b).append(n);
        int lines = r.nextInt(12);
        for (int i = 0; i < lines; i++) {
            gap(r, b).append(i == 0 ? ':' : ',');
            gap(r, b).append(r.nextInt(Math.max(1, n)));
            gap(r, b).append('-');
            gap(r, b).append(r.nextInt(Math.max(1, n)));
            if (r.nextBoolean()) {
                b.setLength(b.length() - 1);
                b.append(r.nextInt(7));
            }
        }
        gap(r, b).append(';');
        for (int j = r.nextInt(3); j > 0; j--) {
            gap(r, b).append("labels");
            for (int i = 0; i <= r.nextInt(4); i++) {
                if (i > 0) {
                    b.append(',');
                }
                gap(r, b).append(r.nextInt(Math.max(1, n)));
                gap(r, b).append('=');
                gap(r, b).append(r.nextInt(12) == 0 ? r.nextInt(130) : r.nextInt(8));
            }
            gap(r, b).append(';');
        }
        if (r.nextInt(4) == 0) {
            int at = r.nextInt(b.length());
            b.setCharAt(at, (char) (r.nextBoolean() ? r.nextInt(256) : ":;,-= 0a\n".charAt(r.nextInt(9))));
        }
        return b.toString();
    }

    private static StringBuilder gap(Random r, StringBuilder b) {
        for (int i = r.nextInt(12); i > 9; i--) {
            b.append(r.nextBoolean() ? ' ' : '\n');
        }
        return b;
    }

    /** A net as an adjacency table, with labels. */
    private static final class Graph {
        int n;
        boolean[][] on = new boolean[7][7];
        int[] label = {-1, -1, -1, -1, -1, -1, -1};
        /** How many lines, told once while completions are listed. */
        int e = -1;
        /** A net in a slot is never changed, only another one put there. */
        java.util.Map<Integer, List<int[]>> listed = new java.util.HashMap<>();

        Graph(int n) {
            this.n = n;
        }

        Graph copy() {
            Graph g = new Graph(n);
            for (int i = 0; i < 7; i++) {
                g.on[i] = on[i].clone();
            }
            g.label = label.clone();
            return g;
        }

        void join(int a, int b, boolean there) {
            on[a][b] = there;
            on[b][a] = there;
        }

        List<int[]> lines() {
            List<int[]> list = new ArrayList<>();
            for (int a = 0; a < n; a++) {
                for (int b = a + 1; b < n; b++) {
                    if (on[a][b]) {
                        list.add(new int[] {a, b});
                    }
                }
            }
            return list;
        }

        int e() {
            return lines().size();
        }

        int degree(int p) {
            int d = 0;
            for (int q = 0; q < n; q++) {
                d += on[p][q] ? 1 : 0;
            }
            return d;
        }

        int parts() {
            int[] part = new int[n];
            for (int p = 0; p < n; p++) {
                part[p] = p;
            }
            for (int[] l : lines()) {
                int from = part[l[0]];
                int to = part[l[1]];
                for (int p = 0; p < n; p++) {
                    if (part[p] == from) {
                        part[p] = to;
                    }
                }
            }
            int many = 0;
            for (int p = 0; p < n; p++) {
                many += firstOf(part, p) ? 1 : 0;
            }
            return many;
        }

        private static boolean firstOf(int[] part, int p) {
            for (int q = 0; q < p; q++) {
                if (part[q] == part[p]) {
                    return false;
                }
            }
            return true;
        }

        boolean tree() {
            return parts() == 1 && e() == n - 1;
        }

        boolean twoSided() {
            for (int sides = 0; sides < 1 << n; sides++) {
                boolean good = true;
                for (int[] l : lines()) {
                    good &= (sides >> l[0] & 1) != (sides >> l[1] & 1);
                }
                if (good) {
                    return true;
                }
            }
            return false;
        }

        boolean allEven() {
            for (int p = 0; p < n; p++) {
                if (degree(p) % 2 != 0) {
                    return false;
                }
            }
            return true;
        }

        int bound(int kind) {
            int e = e();
            return kind == 2 ? e - 1 : kind == 3 ? 2 * e - 1 : kind == 4 ? 1 : e;
        }

        int why(int kind) {
            int e = e();
            for (int p = 0; p < n; p++) {
                if (label[p] < 0) {
                    return 1;
                }
            }
            for (int p = 0; p < n; p++) {
                if (label[p] > bound(kind)) {
                    return 2;
                }
            }
            if (kind == 4) {
                return even() ? 0 : 5;
            }
            int alike = 0;
            for (int p = 0; p < n; p++) {
                for (int q = 0; q < p; q++) {
                    alike += label[p] == label[q] ? 1 : 0;
                }
            }
            if (alike > (kind == 2 && tree() ? 1 : 0)) {
                return 3;
            }
            List<int[]> lines = lines();
            for (int i = 0; i < e; i++) {
                for (int j = 0; j < i; j++) {
                    if (worth(lines.get(i), kind, e) == worth(lines.get(j), kind, e)) {
                        return 4;
                    }
                }
            }
            if (kind == 3) {
                for (int[] l : lines) {
                    if (Math.abs(label[l[0]] - label[l[1]]) % 2 == 0) {
                        return 5;
                    }
                }
            }
            return kind == 1 && !split(lines) ? 5 : 0;
        }

        private boolean split(List<int[]> lines) {
            for (int k = 0; k < 100; k++) {
                boolean good = true;
                for (int[] l : lines) {
                    good &= label[l[0]] <= k != label[l[1]] <= k;
                }
                if (good) {
                    return true;
                }
            }
            return false;
        }

        private boolean even() {
            int[] points = new int[2];
            int[] lines = new int[2];
            for (int p = 0; p < n; p++) {
                points[label[p]]++;
            }
            for (int[] l : lines()) {
                lines[Math.abs(label[l[0]] - label[l[1]])]++;
            }
            return Math.abs(points[0] - points[1]) < 2 && Math.abs(lines[0] - lines[1]) < 2;
        }

        private int worth(int[] l, int kind, int e) {
            return kind == 2 ? (label[l[0]] + label[l[1]]) % e : Math.abs(label[l[0]] - label[l[1]]);
        }

        /** All completions in order; partial labels are looked at only so that it ends soon. */
        List<int[]> completions(int kind) {
            if (!listed.containsKey(kind)) {
                listed.put(kind, new ArrayList<>());
                Graph g = copy();
                g.e = e();
                fill(g, kind, bound(kind), 0, listed.get(kind));
            }
            return listed.get(kind);
        }

        private static void fill(Graph g, int kind, int bound, int p, List<int[]> found) {
            if (p == g.n) {
                if (g.why(kind) == 0) {
                    found.add(g.label.clone());
                }
                return;
            }
            if (!g.hopeful(kind)) {
                return;
            }
            if (g.label[p] >= 0) {
                fill(g, kind, bound, p + 1, found);
                return;
            }
            for (int l = 0; l <= bound; l++) {
                g.label[p] = l;
                fill(g, kind, bound, p + 1, found);
            }
            g.label[p] = -1;
        }

        private boolean hopeful(int kind) {
            if (kind == 4) {
                return true;
            }
            int alike = 0;
            long worths = 0;
            for (int p = 0; p < n; p++) {
                for (int q = 0; q < p; q++) {
                    if (label[p] >= 0 && label[q] >= 0) {
                        alike += label[p] == label[q] ? 1 : 0;
                        if (on[p][q]) {
                            int w = kind == 2 ? (label[p] + label[q]) % e : Math.abs(label[p] - label[q]);
                            if (w > 60 || (worths >> w & 1) != 0 || kind == 3 && w % 2 == 0) {
                                return false;
                            }
                            worths |= 1L << w;
                        }
                    }
                }
            }
            return alike <= (kind == 2 ? 1 : 0);
        }

        boolean spans(int m, int p) {
            if (!hopeful(0)) {
                return false;
            }
            if (p == n) {
                return true;
            }
            for (int l = 0; l <= m; l++) {
                label[p] = l;
                if (spans(m, p + 1)) {
                    label[p] = -1;
                    return true;
                }
            }
            label[p] = -1;
            return false;
        }

        int edge() {
            if (e() == 0 || why(1) != 0) {
                return -6;
            }
            for (int[] l : lines()) {
                if (Math.abs(label[l[0]] - label[l[1]]) == 1) {
                    return Math.min(label[l[0]], label[l[1]]);
                }
            }
            return -6;
        }

        int pointWith(int l) {
            for (int p = 0; p < n; p++) {
                if (label[p] == l) {
                    return p;
                }
            }
            return -1;
        }
    }

    /** The whole object, slowly. */
    private static final class Model {
        String tape = "";
        String out = "";
        int fault = 0;
        int faultAt = -1;
        Graph[] slots = new Graph[3];
        List<Graph[]> past = new ArrayList<>();

        private Graph net(int s) {
            return s < 0 || s > 2 ? null : slots[s];
        }

        private boolean bad(int s, int k) {
            return net(s) == null || k < 0 || k > 4;
        }

        private boolean noPoint(int s, int p) {
            return net(s) == null || p < 0 || p >= net(s).n;
        }

        private void act(int s, Graph g) {
            past.add(slots.clone());
            if (past.size() > 10) {
                past.remove(0);
            }
            slots[s] = g;
        }

        int feed(int[] w) {
            if (tape.length() > 380) {
                return -1;
            }
            StringBuilder b = new StringBuilder(tape);
            for (int word : w) {
                for (int shift = 24; shift >= 0; shift -= 8) {
                    b.append((char) (word >> shift & 255));
                }
            }
            tape = b.toString();
            return tape.length();
        }

        int end(int n) {
            if (n < 0 || n > tape.length()) {
                return -1;
            }
            tape = tape.substring(0, n);
            return n;
        }

        int told(int s) {
            if (s < 0 || s > 2) {
                return -2;
            }
            Graph g = parse(tape);
            tape = "";
            if (g == null) {
                return -4;
            }
            act(s, g);
            return g.e();
        }

        private Graph parse(String text) {
            List<String> tokens = new ArrayList<>();
            List<Integer> starts = new ArrayList<>();
            java.util.regex.Matcher matcher = java.util.regex.Pattern
                .compile("[a-z]+|[0-9]+|[^ \n]", java.util.regex.Pattern.DOTALL).matcher(text);
            while (matcher.find()) {
                tokens.add(matcher.group());
                starts.add(matcher.start());
            }
            tokens.add("");
            starts.add(text.length());
            int[] at = {0};
            Graph g = new Graph(0);
            int f = walk(g, tokens, at);
            fault = f;
            faultAt = f == 0 ? -1 : starts.get(at[0]);
            return f == 0 ? g : null;
        }

        private static int number(String token) {
            if (!token.matches("[0-9]+")) {
                return -1;
            }
            return new java.math.BigInteger(token).min(java.math.BigInteger.valueOf(9999)).intValue();
        }

        private static int pointFault(Graph g, String token) {
            int v = number(token);
            return v < 0 ? 1 : v >= g.n ? 2 : 0;
        }

        /** The fault's number, at[0] being its token; 0 without. */
        private static int walk(Graph g, List<String> t, int[] at) {
            if (!t.get(at[0]).equals("net")) {
                return 1;
            }
            at[0]++;
            int n = number(t.get(at[0]));
            if (n < 0) {
                return 1;
            }
            if (n < 1 || n > 7) {
                return 2;
            }
            g.n = n;
            at[0]++;
            String mark = ":";
            while (t.get(at[0]).equals(mark)) {
                mark = ",";
                at[0]++;
                int f = pointFault(g, t.get(at[0]));
                if (f != 0) {
                    return f;
                }
                int a = number(t.get(at[0]));
                if (g.e() == 10) {
                    return 4;
                }
                at[0]++;
                if (!t.get(at[0]).equals("-")) {
                    return 1;
                }
                at[0]++;
                f = pointFault(g, t.get(at[0]));
                if (f != 0) {
                    return f;
                }
                int b = number(t.get(at[0]));
                if (a == b) {
                    return 2;
                }
                if (g.on[a][b]) {
                    return 3;
                }
                g.join(a, b, true);
                at[0]++;
            }
            if (!t.get(at[0]).equals(";")) {
                return 1;
            }
            at[0]++;
            while (t.get(at[0]).equals("labels")) {
                do {
                    at[0]++;
                    int f = pointFault(g, t.get(at[0]));
                    if (f != 0) {
                        return f;
                    }
                    int p = number(t.get(at[0]));
                    if (g.label[p] >= 0) {
                        return 3;
                    }
                    at[0]++;
                    if (!t.get(at[0]).equals("=")) {
                        return 1;
                    }
                    at[0]++;
                    int l = number(t.get(at[0]));
                    if (l < 0) {
                        return 1;
                    }
                    if (l > 99) {
                        return 2;
                    }
                    g.label[p] = l;
                    at[0]++;
                } while (t.get(at[0]).equals(","));
                if (!t.get(at[0]).equals(";")) {
                    return 1;
                }
                at[0]++;
            }
            return at[0] == t.size() - 1 ? 0 : 1;
        }

        int fault(int what) {
            return what == 0 ? fault : what == 1 ? faultAt : -1;
        }

        int count(int what) {
            int bits = 0;
            for (int s = 0; s < 3; s++) {
                bits += slots[s] == null ? 0 : 1 << s;
            }
            int[] all = {bits, past.size(), tape.length(), out.length()};
            return what < 0 || what > 3 ? -1 : all[what];
        }

        int look(int s, int what) {
            Graph g = net(s);
            if (g == null || what < 0 || what > 7) {
                return -2;
            }
            int bits = 0;
            int most = 0;
            int fewest = 99;
            for (int p = 0; p < g.n; p++) {
                bits += g.label[p] < 0 ? 0 : 1 << p;
                most = Math.max(most, g.degree(p));
                fewest = Math.min(fewest, g.degree(p));
            }
            int[] all = {g.n, g.e(), bits, g.tree() ? 1 : 0, g.twoSided() ? 1 : 0, g.parts(), most, fewest};
            return all[what];
        }

        int line(int s, int i, int what) {
            if (net(s) == null || i < 0 || what < 0 || what > 1) {
                return -2;
            }
            return i >= net(s).e() ? -1 : net(s).lines().get(i)[what];
        }

        int adds(int s, int a, int b) {
            if (noPoint(s, a) || noPoint(s, b) || a == b) {
                return -2;
            }
            if (net(s).on[a][b] || net(s).e() == 10) {
                return -5;
            }
            Graph g = net(s).copy();
            g.join(a, b, true);
            act(s, g);
            return g.e();
        }

        int cuts(int s, int a, int b) {
            if (noPoint(s, a) || noPoint(s, b) || a == b) {
                return -2;
            }
            if (!net(s).on[a][b]) {
                return -6;
            }
            Graph g = net(s).copy();
            g.join(a, b, false);
            act(s, g);
            return g.e();
        }

        int label(int s, int p) {
            return noPoint(s, p) ? -2 : net(s).label[p];
        }

        int sets(int s, int p, int l) {
            if (noPoint(s, p) || l < -1 || l > 99) {
                return -2;
            }
            int before = net(s).label[p];
            if (before != l) {
                Graph g = net(s).copy();
                g.label[p] = l;
                act(s, g);
            }
            return before;
        }

        private static int gap(Graph g, int[] l) {
            return g.label[l[0]] < 0 || g.label[l[1]] < 0 ? -1 : Math.abs(g.label[l[0]] - g.label[l[1]]);
        }

        int worth(int s, int i, int what) {
            Graph g = net(s);
            if (g == null || i < 0 || what < 0 || what > 1) {
                return -2;
            }
            if (i >= g.e() || gap(g, g.lines().get(i)) < 0) {
                return -1;
            }
            int[] l = g.lines().get(i);
            return what == 0 ? gap(g, l) : g.label[l[0]] + g.label[l[1]];
        }

        int seen(int s, int what) {
            if (net(s) == null || what < 0 || what > 1) {
                return -2;
            }
            int bits = 0;
            for (int d = 0; d <= 30; d++) {
                int many = 0;
                for (int[] l : net(s).lines()) {
                    many += gap(net(s), l) == d ? 1 : 0;
                }
                bits += many > what ? 1 << d : 0;
            }
            return bits;
        }

        int total(int s, int what) {
            Graph g = net(s);
            if (g == null || what < 0 || what > 1) {
                return -2;
            }
            int sum = 0;
            for (int p = 0; p < g.n; p++) {
                if (g.label[p] < 0) {
                    return -1;
                }
                sum += g.label[p];
            }
            int gaps = 0;
            for (int[] l : g.lines()) {
                gaps += gap(g, l);
            }
            return what == 0 ? sum : gaps;
        }

        int is(int s, int k) {
            return bad(s, k) ? -2 : net(s).why(k) == 0 ? 1 : 0;
        }

        int why(int s, int k) {
            return bad(s, k) ? -2 : net(s).why(k);
        }

        int many(int s, int k) {
            return bad(s, k) ? -2 : net(s).completions(k).size();
        }

        int row(int s, int k, int i, int p) {
            if (bad(s, k) || noPoint(s, p) || i < 0) {
                return -2;
            }
            List<int[]> all = net(s).completions(k);
            return i >= all.size() ? -1 : all.get(i)[p];
        }

        int takes(int s, int k, int i) {
            if (bad(s, k) || i < 0) {
                return -2;
            }
            List<int[]> all = net(s).completions(k);
            if (i >= all.size()) {
                return -1;
            }
            Graph g = net(s).copy();
            int fresh = 0;
            for (int p = 0; p < g.n; p++) {
                fresh += g.label[p] < 0 ? 1 : 0;
                g.label[p] = all.get(i)[p];
            }
            if (fresh > 0) {
                act(s, g);
            }
            return fresh;
        }

        int could(int s, int k, int p) {
            if (bad(s, k) || noPoint(s, p)) {
                return -2;
            }
            int bits = 0;
            for (int[] row : net(s).completions(k)) {
                bits |= 1 << row[p];
            }
            return bits;
        }

        int sure(int s, int k) {
            if (bad(s, k)) {
                return -2;
            }
            int bits = 0;
            for (int p = 0; p < net(s).n; p++) {
                bits += Integer.bitCount(could(s, k, p)) == 1 ? 1 << p : 0;
            }
            return bits;
        }

        int unlike(int s, int k) {
            if (bad(s, k)) {
                return -2;
            }
            Graph g = net(s);
            java.util.Set<String> counted = new java.util.HashSet<>();
            int many = 0;
            for (int[] row : g.completions(k)) {
                boolean fresh = true;
                for (int more = 0; more < (k == 2 ? g.e() : 1); more++) {
                    int[] turned = row.clone();
                    for (int p = 0; p < g.n; p++) {
                        turned[p] = k == 2 ? (row[p] + more) % g.e() : g.bound(k) - row[p];
                    }
                    fresh &= !counted.contains(java.util.Arrays.toString(turned));
                }
                counted.add(java.util.Arrays.toString(row));
                many += fresh ? 1 : 0;
            }
            return many;
        }

        int hint(int s, int k) {
            if (bad(s, k)) {
                return -2;
            }
            int best = -1;
            int fewest = 99;
            for (int p = 0; p < net(s).n; p++) {
                if (net(s).label[p] < 0) {
                    int many = Integer.bitCount(could(s, k, p));
                    if (many < fewest) {
                        fewest = many;
                        best = p;
                    }
                }
            }
            return best >= 0 && many(s, k) == 0 ? -6 : best;
        }

        int key(int s, int k) {
            if (bad(s, k)) {
                return -2;
            }
            Graph g = net(s);
            if (g.why(k) != 0) {
                return -6;
            }
            Graph bare = g.copy();
            bare.label = new Graph(0).label;
            List<int[]> all = bare.completions(k);
            for (int size = 0; ; size++) {
                for (int some = 0; some < 1 << g.n; some++) {
                    if (Integer.bitCount(some) == size) {
                        int many = 0;
                        for (int[] row : all) {
                            boolean same = true;
                            for (int p = 0; p < g.n; p++) {
                                same &= (some >> p & 1) == 0 || row[p] == g.label[p];
                            }
                            many += same ? 1 : 0;
                        }
                        if (many == 1) {
                            return some;
                        }
                    }
                }
            }
        }

        int spares(int s, int k) {
            if (bad(s, k)) {
                return -2;
            }
            int bits = 0;
            int i = 0;
            for (int[] l : net(s).lines()) {
                Graph g = net(s).copy();
                g.label = new Graph(0).label;
                g.join(l[0], l[1], false);
                bits += g.completions(k).isEmpty() ? 0 : 1 << i;
                i++;
            }
            return bits;
        }

        int bars(int s, int k) {
            if (bad(s, k)) {
                return -2;
            }
            Graph g = net(s);
            int e = g.e();
            boolean yes = false;
            if (k < 2) {
                yes = g.n > e + 1 || g.allEven() && (e % 4 == 1 || e % 4 == 2) || k == 1 && !g.twoSided();
            } else if (k == 2) {
                yes = g.n > e && !g.tree() || e == 0;
                if (!yes && e % 2 == 0 && g.allEven()) {
                    int a = 0;
                    for (int next = 1; next < 5; next++) {
                        boolean goes = true;
                        for (int p = 0; p < g.n; p++) {
                            goes &= g.degree(p) % (1 << next) == 0;
                        }
                        a = goes ? next : a;
                    }
                    yes = e % (1 << a + 1) != 0;
                }
            } else if (k == 3) {
                yes = !g.twoSided() || g.n > 2 * e;
            } else {
                yes = g.allEven() && e % 4 == 2;
            }
            return yes ? 1 : 0;
        }

        int span(int s) {
            if (net(s) == null) {
                return -2;
            }
            Graph g = net(s).copy();
            g.label = new Graph(0).label;
            for (int m = 0; m <= 20; m++) {
                if (g.n <= m + 1 && g.spans(m, 0)) {
                    return m;
                }
            }
            return -1;
        }

        int reverse(int s) {
            if (net(s) == null) {
                return -2;
            }
            Graph g = net(s).copy();
            for (int p = 0; p < g.n; p++) {
                if (g.label[p] < 0 || g.label[p] > g.e()) {
                    return -6;
                }
                g.label[p] = g.e() - g.label[p];
            }
            act(s, g);
            return g.n;
        }

        int mirrors(int s) {
            if (net(s) == null) {
                return -2;
            }
            Graph g = net(s).copy();
            int k = g.edge();
            if (k < 0) {
                return -6;
            }
            for (int p = 0; p < g.n; p++) {
                g.label[p] = g.label[p] <= k ? k - g.label[p] : g.e() + k + 1 - g.label[p];
            }
            act(s, g);
            return g.edge();
        }

        int sprouts(int s) {
            if (net(s) == null) {
                return -2;
            }
            Graph g = net(s).copy();
            if (g.n == 7 || g.e() == 10) {
                return -5;
            }
            if (g.why(0) != 0) {
                return -6;
            }
            int zero = g.pointWith(0);
            g.label[g.n] = g.e() + 1;
            g.n++;
            g.join(zero, g.n - 1, true);
            act(s, g);
            return g.n;
        }

        int edge(int s) {
            return net(s) == null ? -2 : net(s).edge();
        }

        int grafts(int s, int o, int t) {
            if (net(s) == null || net(o) == null || t < 0 || t > 2) {
                return -2;
            }
            Graph one = net(s);
            Graph two = net(o);
            if (one.n + two.n - 1 > 7 || one.e() + two.e() > 10) {
                return -5;
            }
            if (one.edge() < 0 || two.why(0) != 0) {
                return -6;
            }
            int k = one.edge();
            Graph g = one.copy();
            for (int p = 0; p < one.n; p++) {
                g.label[p] += g.label[p] > k ? two.e() : 0;
            }
            int[] where = new int[two.n];
            for (int p = 0; p < two.n; p++) {
                if (two.label[p] == 0) {
                    where[p] = one.pointWith(k);
                } else {
                    where[p] = g.n;
                    g.label[g.n] = two.label[p] + k;
                    g.n++;
                }
            }
            for (int[] l : two.lines()) {
                g.join(where[l[0]], where[l[1]], true);
            }
            act(t, g);
            return g.n;
        }

        int family(int what, int n, int m, int t) {
            Graph g = t < 0 || t > 2 ? null : made(what, n, m);
            if (g == null) {
                return -2;
            }
            act(t, g);
            return g.e();
        }

        private static Graph made(int what, int n, int m) {
            int[] labels = {};
            Graph g = null;
            if (what == 0 && n >= 2 && n <= 7) {
                g = new Graph(n);
                for (int p = 0; p + 1 < n; p++) {
                    g.join(p, p + 1, true);
                }
                int[][] rows = {{0, 1}, {0, 2, 1}, {0, 3, 1, 2}, {0, 4, 1, 3, 2}, {0, 5, 1, 4, 2, 3},
                    {0, 6, 1, 5, 2, 4, 3}};
                labels = rows[n - 2];
            } else if (what == 1 && n >= 1 && n <= 6) {
                g = new Graph(n + 1);
                labels = new int[] {0, 1, 2, 3, 4, 5, 6};
                for (int p = 1; p <= n; p++) {
                    g.join(0, p, true);
                }
            } else if (what == 2 && n >= 3 && n <= 7) {
                g = new Graph(n);
                for (int p = 0; p < n; p++) {
                    g.join(p, (p + 1) % n, true);
                }
                int[][] rows = {{0, 1, 3}, {0, 4, 1, 2}, {}, {}, {0, 7, 1, 6, 2, 4, 3}};
                labels = rows[n - 3];
            } else if (what == 3 && n >= 2 && n <= 5) {
                g = new Graph(n);
                for (int p = 0; p < n; p++) {
                    for (int q = 0; q < p; q++) {
                        g.join(p, q, true);
                    }
                }
                int[][] rows = {{0, 1}, {0, 1, 3}, {0, 1, 4, 6}, {}};
                labels = rows[n - 2];
            } else if (what == 4 && n >= 1 && m >= 1 && n + m <= 7 && n * m <= 10) {
                g = new Graph(n + m);
                labels = new int[n + m];
                for (int p = 0; p < n; p++) {
                    labels[p] = p;
                    for (int q = 0; q < m; q++) {
                        g.join(p, n + q, true);
                        labels[n + q] = (q + 1) * n;
                    }
                }
            }
            for (int p = 0; g != null && p < g.n && p < labels.length; p++) {
                g.label[p] = labels[p];
            }
            return g;
        }

        int rule(int a, int b, int c) {
            List<Integer> row = new ArrayList<>();
            for (int word : new int[] {a, b, c}) {
                for (int shift = 0; shift < 32; shift += 8) {
                    if ((word >> shift & 255) != 255) {
                        row.add(word >> shift & 255);
                    }
                }
            }
            java.util.Set<Integer> gaps = new java.util.HashSet<>();
            for (int i = 0; i < row.size(); i++) {
                for (int j = 0; j < i; j++) {
                    gaps.add(Math.abs(row.get(i) - row.get(j)));
                }
            }
            return 100 * new java.util.HashSet<>(row).size() + gaps.size();
        }

        int drops(int s) {
            if (s < 0 || s > 2) {
                return -2;
            }
            if (slots[s] == null) {
                return 0;
            }
            act(s, null);
            return 1;
        }

        int undo() {
            if (past.isEmpty()) {
                return -1;
            }
            slots = past.remove(past.size() - 1);
            return past.size();
        }

        int tell(int s, int what) {
            Graph g = net(s);
            if (g == null || what < 0 || what > 1) {
                return -2;
            }
            List<String> parts = new ArrayList<>();
            for (int p = 0; what == 0 && p < g.n; p++) {
                parts.add(g.label[p] < 0 ? "-" : String.valueOf(g.label[p]));
            }
            for (int i = 0; what == 1 && i < g.e(); i++) {
                parts.add(g.lines().get(i)[0] + "-" + g.lines().get(i)[1]);
            }
            String list = String.join(",", parts);
            out = what == 0 ? list : "net" + g.n + (list.isEmpty() ? "" : ":" + list) + ";";
            return out.length();
        }

        int octet(int i) {
            return i < 0 || i >= out.length() ? -1 : out.charAt(i);
        }
    }
}
