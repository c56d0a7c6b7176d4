import java.util.Arrays;

/**
 * Nets of points and lines with labels, five kinds of labellings of them, and
 * what can be asked of and done with these. The document's promises are
 * numbered; the public methods stand in their order.
 */
public final class FairLabels {
    public static final int NONE = -1;

    private static final int NO_SUCH = -2;
    private static final int FAULTY = -4;
    private static final int NO_ROOM = -5;
    private static final int NOT_SO = -6;

    private static final int MOST_SLOTS = 3;
    private static final int MOST_POINTS = 7;
    private static final int MOST_LINES = 10;
    private static final int MOST_LABEL = 99;
    private static final int MOST_ACTS = 10;
    private static final int MOST_BYTES = 400;
    private static final int MOST_SPAN = 20;
    private static final int MOST_SEEN = 30;
    private static final int MOST_MARKS = 12;

    private static final int GRACEFUL = 0;
    private static final int ALPHA = 1;
    private static final int HARMONIOUS = 2;
    private static final int ODD = 3;
    private static final int EVEN = 4;
    private static final int KINDS = 5;

    private final Tape tape;
    private final Reader reader;
    private final Tape out;
    private final Net[] slots;
    private final Net draft;
    private final Past past;
    private final Search search;
    private final int[] marks;
    private final int[] gaps;
    private int faultNumber;
    private int faultPlace;

    public FairLabels() {
        tape = new Tape();
        out = new Tape();
        slots = new Net[MOST_SLOTS];
        for (int i = 0; i < MOST_SLOTS; i++) {
            slots[i] = new Net();
        }
        draft = new Net();
        reader = new Reader(tape, draft);
        past = new Past();
        search = new Search(draft);
        marks = new int[MOST_MARKS];
        gaps = new int[MOST_MARKS * (MOST_MARKS - 1) / 2];
        faultNumber = 0;
        faultPlace = NONE;
    }

    public int feed(int a, int b, int c, int d, int e) {
        if (tape.length + 20 > MOST_BYTES) {
            return NONE;
        }
        tape.putFour(a);
        tape.putFour(b);
        tape.putFour(c);
        tape.putFour(d);
        tape.putFour(e);
        return tape.length;
    }

    public int end(int n) {
        if (n < 0 || n > tape.length) {
            return NONE;
        }
        tape.length = n;
        return n;
    }

    public int told(int slot) {
        if (!isSlot(slot)) {
            return NO_SUCH;
        }
        boolean good = reader.readText();
        tape.length = 0;
        faultNumber = reader.faultNumber;
        faultPlace = reader.faultPlace;
        if (!good) {
            return FAULTY;
        }
        keepDraft(slot);
        return slots[slot].lines;
    }

    public int fault(int what) {
        if (what == 0) {
            return faultNumber;
        }
        return what == 1 ? faultPlace : NONE;
    }

    public int count(int what) {
        switch (what) {
            case 0:
                return filledSlots();
            case 1:
                return past.acts;
            case 2:
                return tape.length;
            case 3:
                return out.length;
            default:
                return NONE;
        }
    }

    public int look(int slot, int what) {
        if (!hasNet(slot)) {
            return NO_SUCH;
        }
        Net net = slots[slot];
        switch (what) {
            case 0:
                return net.points;
            case 1:
                return net.lines;
            case 2:
                return net.labelled();
            case 3:
                return net.isTree() ? 1 : 0;
            case 4:
                return net.isTwoSided() ? 1 : 0;
            case 5:
                return net.parts();
            case 6:
                return net.mostLines();
            case 7:
                return net.fewestLines();
            default:
                return NO_SUCH;
        }
    }

    public int line(int slot, int i, int what) {
        if (!hasNet(slot) || i < 0 || what < 0 || what > 1) {
            return NO_SUCH;
        }
        Net net = slots[slot];
        if (i >= net.lines) {
            return NONE;
        }
        return what == 0 ? net.low[i] : net.high[i];
    }

    public int adds(int slot, int a, int b) {
        if (!hasTwoPoints(slot, a, b)) {
            return NO_SUCH;
        }
        Net net = slots[slot];
        if (net.findLine(a, b) != NONE || net.lines >= MOST_LINES) {
            return NO_ROOM;
        }
        past.remember(slot, net);
        net.insertLine(a, b);
        return net.lines;
    }

    public int cuts(int slot, int a, int b) {
        if (!hasTwoPoints(slot, a, b)) {
            return NO_SUCH;
        }
        Net net = slots[slot];
        int i = net.findLine(a, b);
        if (i == NONE) {
            return NOT_SO;
        }
        past.remember(slot, net);
        net.removeLine(i);
        return net.lines;
    }

    public int label(int slot, int p) {
        return hasPoint(slot, p) ? slots[slot].labels[p] : NO_SUCH;
    }

    public int sets(int slot, int p, int l) {
        if (!hasPoint(slot, p) || l < NONE || l > MOST_LABEL) {
            return NO_SUCH;
        }
        Net net = slots[slot];
        int before = net.labels[p];
        if (before != l) {
            past.remember(slot, net);
            net.labels[p] = l;
        }
        return before;
    }

    public int worth(int slot, int i, int what) {
        if (!hasNet(slot) || i < 0 || what < 0 || what > 1) {
            return NO_SUCH;
        }
        Net net = slots[slot];
        if (i >= net.lines || !net.lineHasLabels(i)) {
            return NONE;
        }
        return what == 0 ? net.differenceOf(i) : net.sumOf(i);
    }

    public int seen(int slot, int what) {
        if (!hasNet(slot) || what < 0 || what > 1) {
            return NO_SUCH;
        }
        Net net = slots[slot];
        int once = 0;
        int twice = 0;
        for (int i = 0; i < net.lines; i++) {
            if (net.lineHasLabels(i) && net.differenceOf(i) <= MOST_SEEN) {
                int bit = 1 << net.differenceOf(i);
                twice |= once & bit;
                once |= bit;
            }
        }
        return what == 0 ? once : twice;
    }

    public int total(int slot, int what) {
        if (!hasNet(slot) || what < 0 || what > 1) {
            return NO_SUCH;
        }
        Net net = slots[slot];
        if (!net.allLabelled()) {
            return NONE;
        }
        return what == 0 ? net.sumOfLabels() : net.sumOfDifferences();
    }

    public int is(int slot, int kind) {
        if (!hasNet(slot) || !isKind(kind)) {
            return NO_SUCH;
        }
        return Kinds.reasonAgainst(slots[slot], kind) == 0 ? 1 : 0;
    }

    public int why(int slot, int kind) {
        if (!hasNet(slot) || !isKind(kind)) {
            return NO_SUCH;
        }
        return Kinds.reasonAgainst(slots[slot], kind);
    }

    public int many(int slot, int kind) {
        if (!hasNet(slot) || !isKind(kind)) {
            return NO_SUCH;
        }
        countCompletions(slots[slot], kind);
        return search.census.found;
    }

    public int row(int slot, int kind, int i, int p) {
        if (!hasPoint(slot, p) || !isKind(kind) || i < 0) {
            return NO_SUCH;
        }
        return draftCompletion(slot, kind, i) ? draft.labels[p] : NONE;
    }

    public int takes(int slot, int kind, int i) {
        if (!hasNet(slot) || !isKind(kind) || i < 0) {
            return NO_SUCH;
        }
        if (!draftCompletion(slot, kind, i)) {
            return NONE;
        }
        int fresh = slots[slot].points - Integer.bitCount(slots[slot].labelled());
        if (fresh > 0) {
            keepDraft(slot);
        }
        return fresh;
    }

    public int could(int slot, int kind, int p) {
        if (!hasPoint(slot, p) || !isKind(kind)) {
            return NO_SUCH;
        }
        countCompletions(slots[slot], kind);
        return search.census.labelsAt[p];
    }

    public int sure(int slot, int kind) {
        if (!hasNet(slot) || !isKind(kind)) {
            return NO_SUCH;
        }
        countCompletions(slots[slot], kind);
        int bits = 0;
        for (int p = 0; p < slots[slot].points; p++) {
            if (Integer.bitCount(search.census.labelsAt[p]) == 1) {
                bits |= 1 << p;
            }
        }
        return bits;
    }

    public int unlike(int slot, int kind) {
        if (!hasNet(slot) || !isKind(kind)) {
            return NO_SUCH;
        }
        Net net = slots[slot];
        countCompletions(net, kind);
        int found = search.census.found;
        if (kind == HARMONIOUS) {
            // Another number changes every label, so with a label told no two are one another.
            return net.labelled() == 0 && net.lines > 0 ? found / net.lines : found;
        }
        // Only one point without lines can be itself turned: then one is found, and one counts.
        return Kinds.turningKeepsLabels(net, kind) ? (found + 1) / 2 : found;
    }

    public int hint(int slot, int kind) {
        if (!hasNet(slot) || !isKind(kind)) {
            return NO_SUCH;
        }
        Net net = slots[slot];
        if (net.allLabelled()) {
            return NONE;
        }
        countCompletions(net, kind);
        return search.census.found == 0 ? NOT_SO : search.census.narrowestPoint(net);
    }

    public int key(int slot, int kind) {
        if (!hasNet(slot) || !isKind(kind)) {
            return NO_SUCH;
        }
        Net net = slots[slot];
        if (Kinds.reasonAgainst(net, kind) != 0) {
            return NOT_SO;
        }
        draft.copyOf(net);
        draft.clearLabels();
        search.census.beginComparing(net.labels);
        search.run(draft, kind, false);
        return search.census.leastKey(net.points);
    }

    public int spares(int slot, int kind) {
        if (!hasNet(slot) || !isKind(kind)) {
            return NO_SUCH;
        }
        int bits = 0;
        for (int i = 0; i < slots[slot].lines; i++) {
            draft.copyOf(slots[slot]);
            draft.clearLabels();
            draft.removeLine(i);
            search.census.begin();
            search.run(draft, kind, true);
            if (search.census.found > 0) {
                bits |= 1 << i;
            }
        }
        return bits;
    }

    public int bars(int slot, int kind) {
        if (!hasNet(slot) || !isKind(kind)) {
            return NO_SUCH;
        }
        return Kinds.isBarred(slots[slot], kind) ? 1 : 0;
    }

    public int span(int slot) {
        if (!hasNet(slot)) {
            return NO_SUCH;
        }
        draft.copyOf(slots[slot]);
        draft.clearLabels();
        int least = Math.max(draft.lines, draft.points - 1);
        for (int m = least; m <= MOST_SPAN; m++) {
            if (search.fitsSpan(draft, m)) {
                return m;
            }
        }
        return NONE;
    }

    public int reverse(int slot) {
        if (!hasNet(slot)) {
            return NO_SUCH;
        }
        Net net = slots[slot];
        if (!net.allLabelled() || net.greatestLabel() > net.lines) {
            return NOT_SO;
        }
        past.remember(slot, net);
        for (int p = 0; p < net.points; p++) {
            net.labels[p] = net.lines - net.labels[p];
        }
        return net.points;
    }

    public int mirrors(int slot) {
        if (!hasNet(slot)) {
            return NO_SUCH;
        }
        Net net = slots[slot];
        int k = Kinds.edgeOf(net);
        if (k == NONE) {
            return NOT_SO;
        }
        past.remember(slot, net);
        for (int p = 0; p < net.points; p++) {
            int l = net.labels[p];
            net.labels[p] = l <= k ? k - l : net.lines + k + 1 - l;
        }
        return Kinds.edgeOf(net);
    }

    public int sprouts(int slot) {
        if (!hasNet(slot)) {
            return NO_SUCH;
        }
        Net net = slots[slot];
        if (net.points >= MOST_POINTS || net.lines >= MOST_LINES) {
            return NO_ROOM;
        }
        int root = net.pointWith(0);
        if (root == NONE || Kinds.reasonAgainst(net, GRACEFUL) != 0) {
            return NOT_SO;
        }
        past.remember(slot, net);
        int p = net.points;
        net.points = p + 1;
        net.labels[p] = net.lines + 1;
        net.insertLine(root, p);
        return net.points;
    }

    public int edge(int slot) {
        if (!hasNet(slot)) {
            return NO_SUCH;
        }
        int k = Kinds.edgeOf(slots[slot]);
        return k == NONE ? NOT_SO : k;
    }

    public int grafts(int slot, int other, int to) {
        if (!hasNet(slot) || !hasNet(other) || !isSlot(to)) {
            return NO_SUCH;
        }
        Net one = slots[slot];
        Net two = slots[other];
        if (one.points + two.points - 1 > MOST_POINTS || one.lines + two.lines > MOST_LINES) {
            return NO_ROOM;
        }
        int k = Kinds.edgeOf(one);
        int root = two.pointWith(0);
        if (k == NONE || root == NONE || Kinds.reasonAgainst(two, GRACEFUL) != 0) {
            return NOT_SO;
        }
        Maker.makeGraft(draft, one, two, k, root);
        keepDraft(to);
        return slots[to].points;
    }

    public int family(int what, int n, int m, int to) {
        if (!isSlot(to) || !Maker.makeFamily(draft, what, n, m)) {
            return NO_SUCH;
        }
        keepDraft(to);
        return slots[to].lines;
    }

    public int rule(int a, int b, int c) {
        int many = 0;
        int twos = 0;
        for (int i = 0; i < MOST_MARKS; i++) {
            int packed = i < 4 ? a : i < 8 ? b : c;
            int mark = packed >>> 8 * (i % 4) & 255;
            if (mark != 255) {
                for (int j = 0; j < many; j++) {
                    gaps[twos] = Math.abs(mark - marks[j]);
                    twos++;
                }
                marks[many] = mark;
                many++;
            }
        }
        return 100 * unlikeIn(marks, many) + unlikeIn(gaps, twos);
    }

    public int drops(int slot) {
        if (!isSlot(slot)) {
            return NO_SUCH;
        }
        if (slots[slot].points == 0) {
            return 0;
        }
        past.remember(slot, slots[slot]);
        slots[slot].clear(0);
        return 1;
    }

    public int undo() {
        if (past.acts == 0) {
            return NONE;
        }
        past.bringBack(slots);
        return past.acts;
    }

    public int tell(int slot, int what) {
        if (!hasNet(slot) || what < 0 || what > 1) {
            return NO_SUCH;
        }
        out.length = 0;
        if (what == 0) {
            writeLabels(slots[slot]);
        } else {
            writeNet(slots[slot]);
        }
        return out.length;
    }

    public int octet(int i) {
        return i < 0 || i >= out.length ? NONE : out.bytes[i];
    }

    private static boolean isSlot(int slot) {
        return slot >= 0 && slot < MOST_SLOTS;
    }

    private static boolean isKind(int kind) {
        return kind >= 0 && kind < KINDS;
    }

    private boolean hasNet(int slot) {
        return isSlot(slot) && slots[slot].points > 0;
    }

    private boolean hasPoint(int slot, int p) {
        return hasNet(slot) && p >= 0 && p < slots[slot].points;
    }

    /** A point and itself are not two, so that no line between them can be asked for. */
    private boolean hasTwoPoints(int slot, int a, int b) {
        return hasPoint(slot, a) && hasPoint(slot, b) && a != b;
    }

    private int filledSlots() {
        int bits = 0;
        for (int i = 0; i < MOST_SLOTS; i++) {
            if (slots[i].points > 0) {
                bits |= 1 << i;
            }
        }
        return bits;
    }

    private void keepDraft(int slot) {
        past.remember(slot, slots[slot]);
        slots[slot].copyOf(draft);
    }

    private void countCompletions(Net net, int kind) {
        search.census.begin();
        search.run(net, kind, false);
    }

    /**
     * Brings the i-th completion into the draft. Points get their labels in
     * order, each by how many completions every label leaves, so that no
     * completions need be kept and the search may go in the order that suits it.
     */
    private boolean draftCompletion(int slot, int kind, int i) {
        draft.copyOf(slots[slot]);
        int rest = i;
        for (int p = 0; p < draft.points; p++) {
            if (draft.labels[p] != NONE && p > 0) {
                continue;
            }
            search.census.beginWatching(p);
            search.run(draft, kind, false);
            if (rest >= search.census.found) {
                return false;
            }
            if (search.census.found == 1) {
                search.census.readOnlyOne(draft);
                return true;
            }
            int l = search.census.labelOfRank(rest);
            rest -= search.census.belowLabel(l);
            draft.labels[p] = l;
        }
        return true;
    }

    private void writeLabels(Net net) {
        for (int p = 0; p < net.points; p++) {
            if (p > 0) {
                out.putByte(',');
            }
            if (net.labels[p] == NONE) {
                out.putByte('-');
            } else {
                out.putNumber(net.labels[p]);
            }
        }
    }

    private void writeNet(Net net) {
        out.putByte('n');
        out.putByte('e');
        out.putByte('t');
        out.putNumber(net.points);
        for (int i = 0; i < net.lines; i++) {
            out.putByte(i == 0 ? ':' : ',');
            out.putNumber(net.low[i]);
            out.putByte('-');
            out.putNumber(net.high[i]);
        }
        out.putByte(';');
    }

    /** How many of the first numbers of a row are unlike all ahead of them. */
    private static int unlikeIn(int[] numbers, int length) {
        int many = 0;
        for (int i = 0; i < length && i < numbers.length; i++) {
            int j = 0;
            while (j < i && numbers[j] != numbers[i]) {
                j++;
            }
            if (j == i) {
                many++;
            }
        }
        return many;
    }

    /** A row of bytes with a length: the TAPE, and OUT. */
    private static final class Tape {
        final int[] bytes = new int[MOST_BYTES];
        int length = 0;

        void putByte(int b) {
            if (length < MOST_BYTES) {
                bytes[length] = b & 255;
                length++;
            }
        }

        void putFour(int word) {
            putByte(word >>> 24);
            putByte(word >>> 16);
            putByte(word >>> 8);
            putByte(word);
        }

        /** Labels and points have two digits at most. */
        void putNumber(int n) {
            if (n >= 10) {
                putByte('0' + n / 10);
            }
            putByte('0' + n % 10);
        }
    }

    /** Points, lines in their order, labels. Without points there is no net. */
    private static final class Net {
        int points = 0;
        int lines = 0;
        final int[] low = new int[MOST_LINES];
        final int[] high = new int[MOST_LINES];
        final int[] labels = new int[MOST_POINTS];
        /** Of each point those that have a line to it, as bits. */
        final int[] beside = new int[MOST_POINTS];

        void clear(int newPoints) {
            points = newPoints;
            lines = 0;
            Arrays.fill(beside, 0);
            clearLabels();
        }

        void clearLabels() {
            Arrays.fill(labels, NONE);
        }

        void copyOf(Net other) {
            points = other.points;
            lines = other.lines;
            System.arraycopy(other.low, 0, low, 0, MOST_LINES);
            System.arraycopy(other.high, 0, high, 0, MOST_LINES);
            System.arraycopy(other.labels, 0, labels, 0, MOST_POINTS);
            System.arraycopy(other.beside, 0, beside, 0, MOST_POINTS);
        }

        int findLine(int a, int b) {
            int least = Math.min(a, b);
            int most = Math.max(a, b);
            for (int i = 0; i < lines; i++) {
                if (low[i] == least && high[i] == most) {
                    return i;
                }
            }
            return NONE;
        }

        void insertLine(int a, int b) {
            if (lines >= MOST_LINES) {
                return;
            }
            int least = Math.min(a, b);
            int most = Math.max(a, b);
            int at = lines;
            for (int i = lines - 1; i >= 0; i--) {
                if (low[i] < least || low[i] == least && high[i] < most) {
                    break;
                }
                low[i + 1] = low[i];
                high[i + 1] = high[i];
                at = i;
            }
            low[at] = least;
            high[at] = most;
            lines++;
            beside[a] |= 1 << b;
            beside[b] |= 1 << a;
        }

        void removeLine(int at) {
            if (at < 0 || at >= lines) {
                return;
            }
            beside[low[at]] &= ~(1 << high[at]);
            beside[high[at]] &= ~(1 << low[at]);
            for (int i = at + 1; i < lines; i++) {
                low[i - 1] = low[i];
                high[i - 1] = high[i];
            }
            lines--;
        }

        int linesAt(int p) {
            return Integer.bitCount(beside[p]);
        }

        int mostLines() {
            int most = 0;
            for (int p = 0; p < points; p++) {
                most = Math.max(most, linesAt(p));
            }
            return most;
        }

        int fewestLines() {
            int fewest = MOST_LINES;
            for (int p = 0; p < points; p++) {
                fewest = Math.min(fewest, linesAt(p));
            }
            return fewest;
        }

        /** All points that have a line to one of these. */
        int besideAny(int some) {
            int bits = 0;
            for (int p = 0; p < points; p++) {
                if ((some >> p & 1) != 0) {
                    bits |= beside[p];
                }
            }
            return bits;
        }

        int parts() {
            int done = 0;
            int many = 0;
            for (int p = 0; p < points; p++) {
                if ((done >> p & 1) == 0) {
                    done |= 1 << p;
                    many++;
                    for (int i = 0; i < points; i++) {
                        done |= besideAny(done);
                    }
                }
            }
            return many;
        }

        boolean isTree() {
            return lines == points - 1 && parts() == 1;
        }

        boolean isTwoSided() {
            int here = 0;
            int there = 0;
            for (int p = 0; p < points; p++) {
                if (((here | there) >> p & 1) == 0) {
                    here |= 1 << p;
                    for (int i = 0; i < points; i++) {
                        there |= besideAny(here);
                        here |= besideAny(there);
                    }
                }
            }
            return (here & there) == 0;
        }

        boolean allDegreesEven() {
            for (int p = 0; p < points; p++) {
                if ((linesAt(p) & 1) != 0) {
                    return false;
                }
            }
            return true;
        }

        int labelled() {
            int bits = 0;
            for (int p = 0; p < points; p++) {
                if (labels[p] != NONE) {
                    bits |= 1 << p;
                }
            }
            return bits;
        }

        boolean allLabelled() {
            return labelled() == (1 << points) - 1;
        }

        int greatestLabel() {
            int most = NONE;
            for (int p = 0; p < points; p++) {
                most = Math.max(most, labels[p]);
            }
            return most;
        }

        int pointWith(int l) {
            for (int p = 0; p < points; p++) {
                if (labels[p] == l) {
                    return p;
                }
            }
            return NONE;
        }

        boolean lineHasLabels(int i) {
            return labels[low[i]] != NONE && labels[high[i]] != NONE;
        }

        int differenceOf(int i) {
            return Math.abs(labels[low[i]] - labels[high[i]]);
        }

        int sumOf(int i) {
            return labels[low[i]] + labels[high[i]];
        }

        int sumOfLabels() {
            int sum = 0;
            for (int p = 0; p < points; p++) {
                sum += labels[p];
            }
            return sum;
        }

        int sumOfDifferences() {
            int sum = 0;
            for (int i = 0; i < lines; i++) {
                sum += differenceOf(i);
            }
            return sum;
        }
    }

    /** Reads a TEXT token by token; the first fault ends it. */
    private static final class Reader {
        private static final int THE_END = 0;
        private static final int WORD = 1;
        private static final int NUMBER = 2;
        private static final int SIGN = 3;

        /** Above all bounds, so that long numbers need not be held. */
        private static final int TOO_GREAT = 1000;

        int faultNumber = 0;
        int faultPlace = NONE;
        private final Tape tape;
        private final Net net;
        private int next = 0;
        private int start = 0;
        private int token = THE_END;
        private int value = 0;

        Reader(Tape from, Net into) {
            tape = from;
            net = into;
        }

        boolean readText() {
            net.clear(0);
            faultNumber = 0;
            faultPlace = NONE;
            next = 0;
            advance();
            return readHead() && readLines() && readLabels();
        }

        private boolean refuse(int number) {
            faultNumber = number;
            faultPlace = start;
            return false;
        }

        private boolean atSign(int sign) {
            return token == SIGN && value == sign;
        }

        private boolean passSign(int sign) {
            if (!atSign(sign)) {
                return refuse(1);
            }
            advance();
            return true;
        }

        private boolean passWord(String word) {
            if (token != WORD || !spells(word)) {
                return refuse(1);
            }
            advance();
            return true;
        }

        private boolean readHead() {
            if (!passWord("net")) {
                return false;
            }
            if (token != NUMBER) {
                return refuse(1);
            }
            if (value < 1 || value > MOST_POINTS) {
                return refuse(2);
            }
            net.clear(value);
            advance();
            return true;
        }

        private boolean readLines() {
            for (int i = 0; i <= MOST_LINES && atSign(i == 0 ? ':' : ','); i++) {
                advance();
                if (!readLine()) {
                    return false;
                }
            }
            return passSign(';');
        }

        private boolean readLine() {
            if (!atPoint()) {
                return false;
            }
            if (net.lines >= MOST_LINES) {
                return refuse(4);
            }
            int a = value;
            advance();
            if (!passSign('-') || !atPoint()) {
                return false;
            }
            if (value == a) {
                return refuse(2);
            }
            if (net.findLine(a, value) != NONE) {
                return refuse(3);
            }
            net.insertLine(a, value);
            advance();
            return true;
        }

        private boolean readLabels() {
            for (int i = 0; i < MOST_BYTES && token != THE_END; i++) {
                if (!passWord("labels") || !readLabel()) {
                    return false;
                }
                for (int j = 0; j < MOST_POINTS && atSign(','); j++) {
                    advance();
                    if (!readLabel()) {
                        return false;
                    }
                }
                if (!passSign(';')) {
                    return false;
                }
            }
            return true;
        }

        private boolean readLabel() {
            if (!atPoint()) {
                return false;
            }
            int p = value;
            if (net.labels[p] != NONE) {
                return refuse(3);
            }
            advance();
            if (!passSign('=')) {
                return false;
            }
            if (token != NUMBER) {
                return refuse(1);
            }
            if (value > MOST_LABEL) {
                return refuse(2);
            }
            net.labels[p] = value;
            advance();
            return true;
        }

        private boolean atPoint() {
            if (token != NUMBER) {
                return refuse(1);
            }
            return value < net.points || refuse(2);
        }

        private void advance() {
            skipBlanks();
            start = next;
            if (next >= tape.length) {
                token = THE_END;
                value = 0;
                return;
            }
            int b = tape.bytes[next];
            if (isDigit(b)) {
                takeNumber();
            } else if (isLetter(b)) {
                takeWord();
            } else {
                token = SIGN;
                value = b;
                next++;
            }
        }

        private void skipBlanks() {
            for (; next < tape.length; next++) {
                int b = tape.bytes[next];
                if (b != 32 && b != 10) {
                    return;
                }
            }
        }

        private void takeNumber() {
            token = NUMBER;
            value = 0;
            for (; next < tape.length && isDigit(tape.bytes[next]); next++) {
                value = Math.min(TOO_GREAT, value * 10 + tape.bytes[next] - '0');
            }
        }

        private void takeWord() {
            token = WORD;
            value = 0;
            while (next < tape.length && isLetter(tape.bytes[next])) {
                next++;
            }
        }

        /** Whether the word from start to next is this one. */
        private boolean spells(String word) {
            if (next - start != word.length()) {
                return false;
            }
            for (int i = 0; i < word.length(); i++) {
                if (tape.bytes[start + i] != word.charAt(i)) {
                    return false;
                }
            }
            return true;
        }

        private static boolean isDigit(int b) {
            return b >= '0' && b <= '9';
        }

        private static boolean isLetter(int b) {
            return b >= 'a' && b <= 'z';
        }
    }

    /** The slots as they were ahead of the latest acts. */
    private static final class Past {
        int acts = 0;
        private int newest = 0;
        private final Net[] nets = new Net[MOST_ACTS];
        private final int[] slotOf = new int[MOST_ACTS];

        Past() {
            for (int i = 0; i < MOST_ACTS; i++) {
                nets[i] = new Net();
            }
        }

        void remember(int slot, Net net) {
            newest = (newest + 1) % MOST_ACTS;
            nets[newest].copyOf(net);
            slotOf[newest] = slot;
            acts = Math.min(MOST_ACTS, acts + 1);
        }

        void bringBack(Net[] slots) {
            if (acts == 0) {
                return;
            }
            slots[slotOf[newest]].copyOf(nets[newest]);
            newest = (newest + MOST_ACTS - 1) % MOST_ACTS;
            acts--;
        }
    }

    /** What the kinds ask of labels, and what bars them. */
    private static final class Kinds {
        static int greatestLabel(int kind, int lines) {
            switch (kind) {
                case HARMONIOUS:
                    return lines - 1;
                case ODD:
                    return 2 * lines - 1;
                case EVEN:
                    return 1;
                default:
                    return lines;
            }
        }

        /** How many points may have a label that an earlier one has. */
        static int repeatsAllowed(Net net, int kind) {
            if (kind == EVEN) {
                return MOST_POINTS;
            }
            return kind == HARMONIOUS && net.isTree() ? 1 : 0;
        }

        static int reasonAgainst(Net net, int kind) {
            if (!net.allLabelled()) {
                return 1;
            }
            if (net.greatestLabel() > greatestLabel(kind, net.lines)) {
                return 2;
            }
            if (repeats(net) > repeatsAllowed(net, kind)) {
                return 3;
            }
            if (kind != EVEN && hasLikeWorths(net, kind)) {
                return 4;
            }
            return hasShape(net, kind) ? 0 : 5;
        }

        private static int repeats(Net net) {
            int many = 0;
            for (int p = 0; p < net.points; p++) {
                if (net.pointWith(net.labels[p]) < p) {
                    many++;
                }
            }
            return many;
        }

        private static boolean hasLikeWorths(Net net, int kind) {
            int there = 0;
            for (int i = 0; i < net.lines; i++) {
                int w = kind == HARMONIOUS ? net.sumOf(i) % net.lines : net.differenceOf(i);
                if ((there >> w & 1) != 0) {
                    return true;
                }
                there |= 1 << w;
            }
            return false;
        }

        /** What a kind asks beyond bounds, unlike labels and unlike worths. */
        private static boolean hasShape(Net net, int kind) {
            switch (kind) {
                case ALPHA:
                    return isSplit(net, net.labels);
                case ODD:
                    return allOdd(net);
                case EVEN:
                    return isBalanced(net, net.labels);
                default:
                    return true;
            }
        }

        static boolean isSplit(Net net, int[] labels) {
            int greatestLower = NONE;
            int leastUpper = MOST_LABEL + 1;
            for (int i = 0; i < net.lines; i++) {
                int a = labels[net.low[i]];
                int b = labels[net.high[i]];
                greatestLower = Math.max(greatestLower, Math.min(a, b));
                leastUpper = Math.min(leastUpper, Math.max(a, b));
            }
            return greatestLower < leastUpper;
        }

        private static boolean allOdd(Net net) {
            for (int i = 0; i < net.lines; i++) {
                if (net.differenceOf(i) % 2 == 0) {
                    return false;
                }
            }
            return true;
        }

        static boolean isBalanced(Net net, int[] labels) {
            int ones = 0;
            for (int p = 0; p < net.points; p++) {
                ones += labels[p];
            }
            int across = 0;
            for (int i = 0; i < net.lines; i++) {
                across += labels[net.low[i]] ^ labels[net.high[i]];
            }
            return Math.abs(net.points - 2 * ones) <= 1 && Math.abs(net.lines - 2 * across) <= 1;
        }

        static boolean isBarred(Net net, int kind) {
            int rest = net.lines % 4;
            switch (kind) {
                case GRACEFUL:
                case ALPHA:
                    return net.points > net.lines + 1
                        || net.allDegreesEven() && (rest == 1 || rest == 2)
                        || kind == ALPHA && !net.isTwoSided();
                case HARMONIOUS:
                    return net.lines == 0
                        || net.points > net.lines && !net.isTree()
                        || isBarredByTwos(net);
                case ODD:
                    return !net.isTwoSided() || net.points > 2 * net.lines;
                default:
                    return net.allDegreesEven() && rest == 2;
            }
        }

        private static boolean isBarredByTwos(Net net) {
            if (net.lines % 2 != 0 || !net.allDegreesEven()) {
                return false;
            }
            int together = 0;
            for (int p = 0; p < net.points; p++) {
                together |= net.linesAt(p);
            }
            // The lowest bit in any of them is the greatest power of two in all of them.
            int power = together & -together;
            return (net.lines & (2 * power - 1)) != 0;
        }

        /** The lesser label of the line with difference 1, or NONE without such labels. */
        static int edgeOf(Net net) {
            if (net.lines == 0 || reasonAgainst(net, ALPHA) != 0) {
                return NONE;
            }
            for (int i = 0; i < net.lines; i++) {
                if (net.differenceOf(i) == 1) {
                    return Math.min(net.labels[net.low[i]], net.labels[net.high[i]]);
                }
            }
            return NONE;
        }

        /** Whether every label that is there is the same when turned. */
        static boolean turningKeepsLabels(Net net, int kind) {
            int most = greatestLabel(kind, net.lines);
            for (int p = 0; p < net.points; p++) {
                if (net.labels[p] != NONE && 2 * net.labels[p] != most) {
                    return false;
                }
            }
            return true;
        }
    }

    /** What is counted of completions while they are found. */
    private static final class Census {
        private static final int MOST_VALUES = 21;

        int found = 0;
        final int[] labelsAt = new int[MOST_POINTS];
        private int watched = NONE;
        private final int[] tally = new int[MOST_VALUES];
        private boolean comparing = false;
        private final int[] target = new int[MOST_POINTS];
        private final int[] agreeing = new int[1 << MOST_POINTS];

        void begin() {
            found = 0;
            Arrays.fill(labelsAt, 0);
            watched = NONE;
            comparing = false;
        }

        /** Counts, too, how often a point has each label. */
        void beginWatching(int point) {
            begin();
            watched = point;
            Arrays.fill(tally, 0);
        }

        /** Counts, too, on which points labels agree with these. */
        void beginComparing(int[] labels) {
            begin();
            comparing = true;
            System.arraycopy(labels, 0, target, 0, MOST_POINTS);
            Arrays.fill(agreeing, 0);
        }

        void add(int[] labels, int points) {
            found++;
            int same = 0;
            for (int p = 0; p < points; p++) {
                labelsAt[p] |= 1 << labels[p];
                if (labels[p] == target[p]) {
                    same |= 1 << p;
                }
            }
            if (watched != NONE) {
                tally[labels[watched]]++;
            }
            if (comparing) {
                agreeing[same]++;
            }
        }

        /** The label that the watched point has in the completion of this rank. */
        int labelOfRank(int rank) {
            int rest = rank;
            for (int l = 0; l < MOST_VALUES; l++) {
                if (rest < tally[l]) {
                    return l;
                }
                rest -= tally[l];
            }
            return MOST_VALUES - 1;
        }

        int belowLabel(int label) {
            int many = 0;
            for (int l = 0; l < label; l++) {
                many += tally[l];
            }
            return many;
        }

        /** With just one completion, each point has just one label. */
        void readOnlyOne(Net net) {
            for (int p = 0; p < net.points; p++) {
                net.labels[p] = Integer.numberOfTrailingZeros(labelsAt[p]);
            }
        }

        int narrowestPoint(Net net) {
            int best = NONE;
            int fewest = MOST_VALUES + 1;
            for (int p = 0; p < net.points; p++) {
                int many = Integer.bitCount(labelsAt[p]);
                if (net.labels[p] == NONE && many < fewest) {
                    best = p;
                    fewest = many;
                }
            }
            return best;
        }

        int leastKey(int points) {
            addSupersets(points);
            int best = (1 << points) - 1;
            for (int some = best; some >= 0; some--) {
                if (agreeing[some] == 1 && Integer.bitCount(some) <= Integer.bitCount(best)) {
                    best = some;
                }
            }
            return best;
        }

        /** Counts at each set of points those that agree on all of these, and maybe on more. */
        private void addSupersets(int points) {
            for (int p = 0; p < points; p++) {
                for (int some = 0; some < 1 << points; some++) {
                    if ((some >> p & 1) == 0) {
                        agreeing[some] += agreeing[some | 1 << p];
                    }
                }
            }
        }
    }

    /**
     * Finds all completions. Of kinds that ask for unlike differences, the
     * greatest difference without a line gets one first, since few pairs of
     * labels make it; the others are tried point by point.
     */
    private static final class Search {
        private static final int DEEPEST = 40;
        /** Even differences count as there already, so that none comes. */
        private static final int EVEN_BITS = 0x155555;

        final Census census = new Census();
        private final int[] labels = new int[MOST_POINTS];
        private final int[] uses = new int[Census.MOST_VALUES];
        private final int[] order = new int[MOST_POINTS];
        private final int[] shifted = new int[MOST_POINTS];
        private Net net;
        private int kind = GRACEFUL;
        private int top = 0;
        private int repeats = 0;
        private int repeatsAllowed = 0;
        private int worths = 0;
        private int ordered = 0;
        private boolean anyShift = false;
        private boolean onlyOne = false;
        private boolean stopped = false;

        Search(Net anyNet) {
            net = anyNet;
        }

        /** Whether labels 0 .. most, all unlike, can have unlike differences. */
        boolean fitsSpan(Net ofNet, int most) {
            if (most == ofNet.lines && Kinds.isBarred(ofNet, GRACEFUL)) {
                return false;
            }
            census.begin();
            begin(ofNet, GRACEFUL, true);
            top = most;
            orderLonely();
            placeDifference(this, top, top - ofNet.lines, 0);
            return census.found > 0;
        }

        /** Counts in the census all completions, or just one of them. */
        void run(Net ofNet, int ofKind, boolean justOne) {
            if (Kinds.isBarred(ofNet, ofKind)) {
                return;
            }
            begin(ofNet, ofKind, justOne);
            if (!putLabelsTold()) {
                return;
            }
            if (kind == HARMONIOUS || kind == EVEN) {
                orderAll();
                placePoint(this, 0);
            } else {
                orderLonely();
                placeDifference(this, top, 0, 0);
            }
        }

        private void begin(Net ofNet, int ofKind, boolean justOne) {
            net = ofNet;
            kind = ofKind;
            onlyOne = justOne;
            stopped = false;
            top = Kinds.greatestLabel(kind, net.lines);
            repeats = 0;
            repeatsAllowed = Kinds.repeatsAllowed(net, kind);
            worths = kind == ODD ? EVEN_BITS : 0;
            // Labels all more by some number stay harmonious: one point may be held at 0.
            anyShift = kind == HARMONIOUS && net.labelled() == 0;
            Arrays.fill(labels, NONE);
            Arrays.fill(uses, 0);
        }

        private boolean putLabelsTold() {
            for (int p = 0; p < net.points; p++) {
                int l = net.labels[p];
                if (l != NONE) {
                    int with = worthsWith(p, l);
                    if (with == NONE) {
                        return false;
                    }
                    put(p, l, with);
                }
            }
            return true;
        }

        /** Only points without lines are left when all differences have lines. */
        private void orderLonely() {
            ordered = 0;
            for (int p = 0; p < net.points; p++) {
                if (labels[p] == NONE && net.beside[p] == 0) {
                    order[ordered] = p;
                    ordered++;
                }
            }
        }

        /** Each next point has as many lines to earlier ones as can be. */
        private void orderAll() {
            int done = net.labelled();
            ordered = 0;
            for (int i = Integer.bitCount(done); i < net.points; i++) {
                int p = bestNext(done);
                order[ordered] = p;
                ordered++;
                done |= 1 << p;
            }
        }

        private int bestNext(int done) {
            int best = 0;
            int most = NONE;
            for (int p = 0; p < net.points; p++) {
                int worth = MOST_LINES * Integer.bitCount(net.beside[p] & done) + net.linesAt(p);
                if ((done >> p & 1) == 0 && worth > most) {
                    best = p;
                    most = worth;
                }
            }
            return best;
        }

        /** The worths that there are if a point gets a label, or NONE if it can't. */
        private int worthsWith(int p, int l) {
            if (l < 0 || l > top || uses[l] > 0 && repeats >= repeatsAllowed) {
                return NONE;
            }
            if (kind == EVEN) {
                return worths;
            }
            int with = worths;
            for (int rest = net.beside[p], q = 0; q < net.points && rest != 0; q++, rest >>= 1) {
                if ((rest & 1) != 0 && labels[q] != NONE) {
                    int bit = 1 << worthOf(l, labels[q]);
                    if ((with & bit) != 0) {
                        return NONE;
                    }
                    with |= bit;
                }
            }
            return with;
        }

        /** A sum is below twice the lines, so that one subtraction is the modulo. */
        private int worthOf(int a, int b) {
            if (kind != HARMONIOUS) {
                return Math.abs(a - b);
            }
            return a + b >= net.lines ? a + b - net.lines : a + b;
        }

        private void put(int p, int l, int with) {
            if (uses[l] > 0) {
                repeats++;
            }
            uses[l]++;
            labels[p] = l;
            worths = with;
        }

        private void takeBack(int p, int before) {
            int l = labels[p];
            uses[l]--;
            if (uses[l] > 0) {
                repeats--;
            }
            labels[p] = NONE;
            worths = before;
        }

        /** The greatest difference, not above this one, that no line has; 0 without any. */
        private int nextDifference(int from) {
            for (int d = from; d > 0; d--) {
                if ((worths >> d & 1) == 0) {
                    return d;
                }
            }
            return 0;
        }

        /** Gives the first end its label unless it has it, and then the second; or neither. */
        private boolean putBoth(int a, int l, int b, int other) {
            if (other < 0 || other > top || uses[other] > 0) {
                return false;
            }
            int before = worths;
            boolean held = labels[a] != NONE;
            if (!held) {
                int with = worthsWith(a, l);
                if (with == NONE) {
                    return false;
                }
                put(a, l, with);
            }
            int withBoth = worthsWith(b, other);
            if (withBoth != NONE) {
                put(b, other, withBoth);
                return true;
            }
            if (!held) {
                takeBack(a, before);
            }
            return false;
        }

        private static void placeDifference(Search s, int from, int skips, int depth) {
            int d = s.nextDifference(from);
            if (d == 0) {
                placePoint(s, 0);
                return;
            }
            if (depth > DEEPEST) {
                return;
            }
            for (int i = 0; i < s.net.lines && !s.stopped; i++) {
                if (s.labels[s.net.low[i]] == NONE || s.labels[s.net.high[i]] == NONE) {
                    placeOnLine(s, i, d, skips, depth);
                }
            }
            if (skips > 0 && !s.stopped) {
                int before = s.worths;
                s.worths |= 1 << d;
                placeDifference(s, d - 1, skips - 1, depth + 1);
                s.worths = before;
            }
        }

        /** Tries all labels by which a line, not both of whose ends have one, has a difference. */
        private static void placeOnLine(Search s, int i, int d, int skips, int depth) {
            boolean highIsFree = s.labels[s.net.high[i]] == NONE;
            int a = highIsFree ? s.net.low[i] : s.net.high[i];
            int b = highIsFree ? s.net.high[i] : s.net.low[i];
            boolean held = s.labels[a] != NONE;
            int least = held ? s.labels[a] : 0;
            int most = held ? s.labels[a] : s.top;
            int before = s.worths;
            for (int l = least; l <= most; l++) {
                for (int side = 0; side < 2 && !s.stopped; side++) {
                    if (s.putBoth(a, l, b, side == 0 ? l - d : l + d)) {
                        placeDifference(s, d - 1, skips, depth + 1);
                        s.takeBack(b, before);
                        if (!held) {
                            s.takeBack(a, before);
                        }
                    }
                }
            }
        }

        private static void placePoint(Search s, int at) {
            if (at >= s.ordered || at >= MOST_POINTS) {
                s.keep();
                return;
            }
            int p = s.order[at];
            int most = s.anyShift && at == 0 ? 0 : s.top;
            for (int l = 0; l <= most && !s.stopped; l++) {
                int with = s.worthsWith(p, l);
                if (with != NONE) {
                    int before = s.worths;
                    s.put(p, l, with);
                    placePoint(s, at + 1);
                    s.takeBack(p, before);
                }
            }
        }

        private void keep() {
            if (kind == ALPHA && !Kinds.isSplit(net, labels) || kind == EVEN && !Kinds.isBalanced(net, labels)) {
                return;
            }
            census.add(labels, net.points);
            for (int more = 1; anyShift && more < net.lines; more++) {
                for (int p = 0; p < net.points; p++) {
                    shifted[p] = worthOf(labels[p], more);
                }
                census.add(shifted, net.points);
            }
            stopped = onlyOne;
        }
    }

    /** Nets made by rules: families, and one net grafted on another. */
    private static final class Maker {
        private static final int[] RING_OF_3 = {0, 1, 3};
        private static final int[] RING_OF_4 = {0, 4, 1, 2};
        private static final int[] RING_OF_7 = {0, 7, 1, 6, 2, 4, 3};
        private static final int[] FULL_OF_4 = {0, 1, 4, 6};
        private static final int[] NO_LABELS = {};

        static boolean makeFamily(Net net, int what, int n, int m) {
            switch (what) {
                case 0:
                    return n >= 2 && n <= MOST_POINTS && makePath(net, n);
                case 1:
                    return n >= 1 && n < MOST_POINTS && makeTwoSides(net, 1, n);
                case 2:
                    return n >= 3 && n <= MOST_POINTS && makeRing(net, n);
                case 3:
                    return n >= 2 && n <= 5 && makeFull(net, n);
                case 4:
                    return n >= 1 && n < MOST_POINTS && m >= 1 && m <= MOST_POINTS - n
                        && n * m <= MOST_LINES && makeTwoSides(net, n, m);
                default:
                    return false;
            }
        }

        private static void joinInRow(Net net, int n) {
            net.clear(n);
            for (int p = 1; p < n; p++) {
                net.insertLine(p - 1, p);
            }
        }

        private static void putLabels(Net net, int[] labels) {
            for (int p = 0; p < net.points && p < labels.length; p++) {
                net.labels[p] = labels[p];
            }
        }

        private static boolean makePath(Net net, int n) {
            joinInRow(net, n);
            for (int p = 0; p < n; p++) {
                net.labels[p] = p % 2 == 0 ? p / 2 : net.lines - p / 2;
            }
            return true;
        }

        private static boolean makeRing(Net net, int n) {
            joinInRow(net, n);
            net.insertLine(0, n - 1);
            putLabels(net, n == 3 ? RING_OF_3 : n == 4 ? RING_OF_4 : n == 7 ? RING_OF_7 : NO_LABELS);
            return true;
        }

        private static boolean makeFull(Net net, int n) {
            net.clear(n);
            for (int b = 1; b < n; b++) {
                for (int a = 0; a < b; a++) {
                    net.insertLine(a, b);
                }
            }
            // With two points and with three, the labels are the first of a ring's.
            putLabels(net, n <= 3 ? RING_OF_3 : n == 4 ? FULL_OF_4 : NO_LABELS);
            return true;
        }

        /** A star is this with one point on its first side. */
        private static boolean makeTwoSides(Net net, int n, int m) {
            net.clear(n + m);
            for (int a = 0; a < n; a++) {
                net.labels[a] = a;
                for (int b = 0; b < m; b++) {
                    net.insertLine(a, n + b);
                }
            }
            for (int b = 0; b < m; b++) {
                net.labels[n + b] = n * (b + 1);
            }
            return true;
        }

        static void makeGraft(Net net, Net one, Net two, int k, int root) {
            int joint = one.pointWith(k);
            if (joint == NONE) {
                return;
            }
            net.copyOf(one);
            net.points = one.points + two.points - 1;
            for (int p = 0; p < one.points; p++) {
                if (one.labels[p] > k) {
                    net.labels[p] += two.lines;
                }
            }
            for (int p = 0; p < two.points; p++) {
                net.labels[graftedPoint(one, p, root, joint)] = two.labels[p] + k;
            }
            for (int i = 0; i < two.lines; i++) {
                net.insertLine(graftedPoint(one, two.low[i], root, joint),
                    graftedPoint(one, two.high[i], root, joint));
            }
        }

        /** Where a point of the other net comes: its root on the joint, the rest behind. */
        private static int graftedPoint(Net one, int p, int root, int joint) {
            if (p == root) {
                return joint;
            }
            return one.points + (p > root ? p - 1 : p);
        }
    }
}
