import java.util.function.Supplier;
import java.util.function.ToIntFunction;

/**
 * The sentences on SLOTS, on -2 and on which answer is told ahead of which, for
 * every method; what is refused leaves all else as it was. And how many calls
 * an object is used for.
 */
public final class RefusalTest {
    private static final int[] NO_SLOTS = {-1, 3, 4, 31, 32, 256, Integer.MIN_VALUE, Integer.MAX_VALUE};
    private static final int[] NO_KINDS = {-1, 5, 6, 32, 256, Integer.MIN_VALUE, Integer.MAX_VALUE};
    private static final int[] NO_NUMBERS = {-1, -2, Integer.MIN_VALUE};
    private static final int EMPTY = 1;

    public static void main(String[] args) {
        slots();
        noSuchSlot();
        noNet();
        noPoint();
        noLine();
        noKind();
        noWhat();
        noNumber();
        aheadOfNone();
        aheadOfNoRoomAndNotSo();
        notSoIsLast();
        lastCall();
        Sentences.finish("Terms, SLOTS");
    }

    private static void says(String words) {
        Sentences.says("Terms, SLOTS", words);
    }

    private static void due(int got, int want) {
        Sentences.due(got, want);
    }

    private static FairLabels with(String text) {
        return Sentences.with(text);
    }

    private static void stays(Supplier<FairLabels> maker, ToIntFunction<FairLabels> call, int want) {
        Sentences.stays(maker, call, want);
    }

    /** Slot 0: a path of three, labelled; slot 1 is empty; slot 2: a text's net; OUT, a fault, and a text on the tape. */
    private static FairLabels rich() {
        FairLabels x = new FairLabels();
        Sentences.tells(x, 2, "net 4:0-1,1-2,2-3;labels 0=7;");
        x.family(0, 3, 0, 0);
        x.tell(0, 1);
        Sentences.tells(x, 0, "net 3:0-0;");
        Sentences.lay(x, "net 2:0-1;labels 1=9;");
        return x;
    }

    private static void refused(ToIntFunction<FairLabels> call) {
        stays(RefusalTest::rich, call, -2);
    }

    /** Every call that asks for a slot with a net in it: all other arguments are good. */
    private static void refusedEverywhere(int s) {
        refused(x -> x.look(s, 0));
        refused(x -> x.line(s, 0, 0));
        refused(x -> x.adds(s, 0, 2));
        refused(x -> x.cuts(s, 0, 1));
        refused(x -> x.label(s, 0));
        refused(x -> x.sets(s, 0, 1));
        refused(x -> x.worth(s, 0, 0));
        refused(x -> x.seen(s, 0));
        refused(x -> x.total(s, 0));
        refused(x -> x.is(s, 0));
        refused(x -> x.why(s, 0));
        refused(x -> x.many(s, 0));
        refused(x -> x.row(s, 0, 0, 0));
        refused(x -> x.takes(s, 0, 0));
        refused(x -> x.could(s, 0, 0));
        refused(x -> x.sure(s, 0));
        refused(x -> x.unlike(s, 0));
        refused(x -> x.hint(s, 0));
        refused(x -> x.key(s, 0));
        refused(x -> x.spares(s, 0));
        refused(x -> x.bars(s, 0));
        refused(x -> x.span(s));
        refused(x -> x.reverse(s));
        refused(x -> x.mirrors(s));
        refused(x -> x.sprouts(s));
        refused(x -> x.edge(s));
        refused(x -> x.grafts(s, 0, 1));
        refused(x -> x.grafts(0, s, 1));
        refused(x -> x.grafts(s, s, 1));
        refused(x -> x.tell(s, 0));
        refused(x -> x.tell(s, 1));
    }

    private static void slots() {
        says("SLOTS 0 .. 2.");
        for (int s = 0; s < 3; s++) {
            FairLabels x = new FairLabels();
            due(x.drops(s), 0);
            due(Sentences.tells(x, s, "net 2:0-1;labels 0=0,1=1;"), 1);
            due(x.count(0), 1 << s);
            due(x.look(s, 0), 2);
            due(x.is(s, 0), 1);
            due(x.tell(s, 0), 3);
            due(x.grafts(s, s, s), 3);
            due(x.sprouts(s), 4);
            due(x.family(0, 2, 0, s), 1);
            due(x.drops(s), 1);
            due(x.count(0), 0);
        }
        stays(RefusalTest::rich, x -> x.told(3), -2);
        stays(RefusalTest::rich, x -> x.told(-1), -2);
    }

    private static void noSuchSlot() {
        says("-2 (where nothing else is told): there is no such SLOT,");
        for (int s : NO_SLOTS) {
            refusedEverywhere(s);
            refused(x -> x.told(s));
            refused(x -> x.drops(s));
            refused(x -> x.grafts(0, 0, s));
            refused(x -> x.family(0, 3, 0, s));
            refused(x -> x.family(4, 2, 2, s));
        }
    }

    private static void noNet() {
        says("NET in it,");
        refusedEverywhere(EMPTY);
        // a slot that had one
        FairLabels x = rich();
        due(x.drops(0), 1);
        due(x.look(0, 0), -2);
        due(x.label(0, 0), -2);
        due(x.sets(0, 0, 1), -2);
        due(x.many(0, 0), -2);
        due(x.span(0), -2);
        due(x.tell(0, 0), -2);
        due(x.grafts(0, 0, 1), -2);
        due(x.undo(), 2);
        due(x.look(0, 0), 3);
        // an empty slot is one to come into
        due(rich().told(EMPTY), 1);
        due(rich().family(0, 3, 0, EMPTY), 2);
        due(rich().grafts(0, 0, EMPTY), 5);
        due(rich().drops(EMPTY), 0);
    }

    private static void noPoint() {
        says("POINT,");
        int[] none = {-1, 3, 7, 8, 32, 256, Integer.MIN_VALUE, Integer.MAX_VALUE};
        for (int p : none) {
            refused(x -> x.adds(0, p, 0));
            refused(x -> x.adds(0, 0, p));
            refused(x -> x.adds(0, p, p));
            refused(x -> x.cuts(0, p, 1));
            refused(x -> x.cuts(0, 1, p));
            refused(x -> x.cuts(0, p, p));
            refused(x -> x.label(0, p));
            refused(x -> x.sets(0, p, 1));
            refused(x -> x.row(0, 0, 0, p));
            refused(x -> x.could(0, 0, p));
        }
        due(rich().adds(0, 2, 0), 3);
        due(rich().cuts(0, 2, 1), 1);
        due(rich().label(0, 2), 1);
        due(rich().sets(0, 2, 1), 1);
        due(rich().row(0, 0, 0, 2), 1);
        due(rich().could(0, 0, 2), 2);
        // of a net with all seven
        FairLabels x = with("net 7;");
        due(x.label(0, 6), -1);
        due(x.label(0, 7), -2);
        due(x.sets(0, 6, 1), -1);
        due(x.sets(0, 7, 1), -2);
        due(x.adds(0, 6, 7), -2);
        due(x.adds(0, 5, 6), 1);
    }

    private static void noLine() {
        says("LINE,");
        for (int i : NO_NUMBERS) {
            refused(x -> x.line(0, i, 0));
            refused(x -> x.line(0, i, 1));
            refused(x -> x.worth(0, i, 0));
            refused(x -> x.worth(0, i, 1));
        }
        due(rich().line(0, 0, 0), 0);
        due(rich().worth(0, 0, 0), 2);
    }

    private static void noKind() {
        says("KIND,");
        for (int k : NO_KINDS) {
            refused(x -> x.is(0, k));
            refused(x -> x.why(0, k));
            refused(x -> x.many(0, k));
            refused(x -> x.row(0, k, 0, 0));
            refused(x -> x.takes(0, k, 0));
            refused(x -> x.takes(2, k, 0));
            refused(x -> x.could(0, k, 0));
            refused(x -> x.sure(0, k));
            refused(x -> x.unlike(0, k));
            refused(x -> x.hint(2, k));
            refused(x -> x.key(0, k));
            refused(x -> x.spares(0, k));
            refused(x -> x.bars(0, k));
        }
        for (int k = 0; k < 5; k++) {
            FairLabels x = with("net 2:0-1;labels 0=0;");
            due(x.why(0, k), 1);
            due(x.is(0, k), 0);
            due(x.many(0, k), 1);
            due(x.could(0, k, 0), 1);
            due(x.sure(0, k), 3);
            due(x.unlike(0, k), 1);
            due(x.hint(0, k), 1);
            due(x.key(0, k), -6);
            due(x.bars(0, k), 0);
            due(x.spares(0, k), k == 4 ? 1 : 0);
            due(x.row(0, k, 0, 1), k == 2 ? 0 : 1);
            due(x.takes(0, k, 0), 1);
        }
    }

    private static void noWhat() {
        says("what,");
        int[] none = {-1, 2, 32, Integer.MIN_VALUE, Integer.MAX_VALUE};
        for (int what : none) {
            refused(x -> x.line(0, 0, what));
            refused(x -> x.worth(0, 0, what));
            refused(x -> x.seen(0, what));
            refused(x -> x.total(0, what));
            refused(x -> x.tell(0, what));
        }
        int[] noLook = {-1, 8, 32, Integer.MIN_VALUE, Integer.MAX_VALUE};
        for (int what : noLook) {
            refused(x -> x.look(0, what));
        }
        int[] noFamily = {-1, 5, 32, Integer.MIN_VALUE, Integer.MAX_VALUE};
        for (int what : noFamily) {
            refused(x -> x.family(what, 3, 1, 0));
        }
        due(rich().line(0, 0, 1), 1);
        due(rich().worth(0, 0, 1), 2);
        due(rich().seen(0, 1), 0);
        due(rich().total(0, 1), 3);
        due(rich().tell(0, 1), 13);
        due(rich().look(0, 7), 1);
        due(rich().family(4, 3, 1, 0), 3);
    }

    private static void noNumber() {
        says("number as told;");
        int[] noLabel = {-2, 100, 101, 256, Integer.MIN_VALUE, Integer.MAX_VALUE};
        for (int l : noLabel) {
            refused(x -> x.sets(0, 0, l));
        }
        for (int i : NO_NUMBERS) {
            refused(x -> x.row(0, 0, i, 0));
            refused(x -> x.row(2, 0, i, 0));
            refused(x -> x.takes(0, 0, i));
            refused(x -> x.takes(2, 0, i));
        }
        int[][] noSize = {{0, 1}, {0, 8}, {1, 0}, {1, 7}, {2, 2}, {2, 8}, {3, 1}, {3, 6}, {4, 0}, {4, 7}};
        for (int[] size : noSize) {
            refused(x -> x.family(size[0], size[1], 1, 0));
        }
        due(rich().sets(0, 0, 99), 0);
        due(rich().sets(0, 0, -1), 0);
        due(rich().takes(2, 3, 0), -1);
        due(rich().row(0, 0, 0, 0), 0);
    }

    private static void aheadOfNone() {
        says("ahead of NONE,");
        // not so many lines
        stays(RefusalTest::rich, x -> x.line(0, 2, 0), -1);
        refused(x -> x.line(0, 2, 2));
        refused(x -> x.line(0, Integer.MAX_VALUE, -1));
        refused(x -> x.line(EMPTY, 2, 0));
        stays(RefusalTest::rich, x -> x.worth(0, 2, 0), -1);
        refused(x -> x.worth(0, 2, 2));
        refused(x -> x.worth(EMPTY, 2, 0));
        // a label that is not there
        stays(RefusalTest::rich, x -> x.worth(2, 0, 0), -1);
        refused(x -> x.worth(2, 0, 2));
        refused(x -> x.worth(2, -1, 0));
        stays(RefusalTest::rich, x -> x.total(2, 0), -1);
        stays(RefusalTest::rich, x -> x.total(2, 1), -1);
        refused(x -> x.total(2, 2));
        refused(x -> x.total(2, -1));
        stays(RefusalTest::rich, x -> x.label(2, 1), -1);
        refused(x -> x.label(2, 4));
        refused(x -> x.sets(2, 1, 100));
        refused(x -> x.sets(2, 4, -1));
        // not so many completions
        stays(RefusalTest::rich, x -> x.row(0, 0, 1, 0), -1);
        refused(x -> x.row(0, 0, 1, 3));
        refused(x -> x.row(0, 5, 1, 0));
        refused(x -> x.row(2, 0, 0, 4));
        stays(RefusalTest::rich, x -> x.takes(0, 0, 1), -1);
        stays(RefusalTest::rich, x -> x.takes(2, 0, 0), -1);
        refused(x -> x.takes(0, 5, 1));
        refused(x -> x.takes(EMPTY, 0, 1));
        // all have labels
        stays(RefusalTest::rich, x -> x.hint(0, 0), -1);
        refused(x -> x.hint(0, 5));
        refused(x -> x.hint(0, -1));
    }

    private static FairLabels fullOfLines() {
        return with("net 7:0-1,0-2,0-3,0-4,0-5,0-6,1-2,1-3,1-4,1-5;");
    }

    private static void aheadOfNoRoomAndNotSo() {
        says("-5, -6;");
        stays(RefusalTest::fullOfLines, x -> x.adds(0, 2, 3), -5);
        stays(RefusalTest::fullOfLines, x -> x.adds(0, 1, 0), -5);
        stays(RefusalTest::fullOfLines, x -> x.adds(0, 2, 2), -2);
        stays(RefusalTest::fullOfLines, x -> x.adds(0, 2, 7), -2);
        stays(RefusalTest::fullOfLines, x -> x.adds(0, -1, 2), -2);
        stays(RefusalTest::fullOfLines, x -> x.adds(1, 2, 3), -2);
        stays(RefusalTest::fullOfLines, x -> x.sprouts(0), -5);
        stays(RefusalTest::fullOfLines, x -> x.sprouts(1), -2);
        stays(RefusalTest::fullOfLines, x -> x.grafts(0, 0, 1), -5);
        stays(RefusalTest::fullOfLines, x -> x.grafts(0, 0, 3), -2);
        stays(RefusalTest::fullOfLines, x -> x.grafts(0, 0, -1), -2);
        stays(RefusalTest::fullOfLines, x -> x.grafts(0, 1, 2), -2);
        stays(RefusalTest::fullOfLines, x -> x.grafts(1, 0, 2), -2);
        stays(RefusalTest::rich, x -> x.cuts(0, 0, 2), -6);
        refused(x -> x.cuts(0, 0, 3));
        refused(x -> x.cuts(0, 2, 2));
        stays(RefusalTest::rich, x -> x.hint(2, 0), -6);
        refused(x -> x.hint(2, 5));
        stays(RefusalTest::rich, x -> x.key(2, 0), -6);
        refused(x -> x.key(2, 5));
        refused(x -> x.key(2, -1));
        stays(RefusalTest::rich, x -> x.grafts(2, 0, 1), -6);
        refused(x -> x.grafts(2, 0, 3));
        stays(RefusalTest::rich, x -> x.reverse(2), -6);
        stays(RefusalTest::rich, x -> x.mirrors(2), -6);
        stays(RefusalTest::rich, x -> x.sprouts(2), -6);
        stays(RefusalTest::rich, x -> x.edge(2), -6);
    }

    private static void notSoIsLast() {
        says("of these -6 is last.");
        // no room, and labels that are not so
        stays(() -> with("net 7:0-1;"), x -> x.sprouts(0), -5);
        stays(() -> with("net 6:0-1;"), x -> x.sprouts(0), -6);
        stays(() -> with("net 5:0-1,0-2,0-3,0-4,1-2,1-3,1-4,2-3,2-4,3-4;"), x -> x.sprouts(0), -5);
        stays(() -> with("net 5:0-1,0-2,0-3,0-4,1-2,1-3,1-4,2-3,2-4;"), x -> x.sprouts(0), -6);
        stays(() -> with("net 4;"), x -> x.grafts(0, 0, 1), -6);
        stays(() -> with("net 5;"), x -> x.grafts(0, 0, 1), -5);
        stays(() -> with("net 4:0-1,0-2,0-3,1-2,1-3,2-3;"), x -> x.grafts(0, 0, 1), -5);
        stays(() -> with("net 4:0-1,0-2,0-3,1-2,1-3;"), x -> x.grafts(0, 0, 1), -6);
        // all points have labels, and there are no completions
        stays(() -> with("net 3:0-1,1-2;labels 0=0,1=1,2=2;"), x -> x.hint(0, 0), -1);
        stays(() -> with("net 3:0-1,1-2;labels 0=0,1=1;"), x -> x.hint(0, 0), -6);
        stays(() -> with("net 2;labels 0=0,1=0;"), x -> x.hint(0, 4), -1);
        stays(() -> with("net 1;labels 0=99;"), x -> x.hint(0, 2), -1);
        stays(() -> with("net 1;"), x -> x.hint(0, 2), -6);
    }

    private static void lastCall() {
        Sentences.says("What it is", "An object is used for at most 512 calls after it has been made;");
        FairLabels x = new FairLabels();
        due(x.family(0, 3, 0, 0), 2);
        for (int call = 2; call < 512; call++) {
            due(x.sets(0, 1, call % 100), call == 2 ? 2 : (call - 1) % 100);
        }
        due(x.label(0, 1), 11);
        x = new FairLabels();
        due(x.family(4, 2, 5, 0), 10);
        for (int call = 2; call < 512; call += 2) {
            due(x.sets(0, 6, call % 4 == 2 ? -1 : 10), call % 4 == 2 ? 10 : -1);
            due(x.is(0, 0), call % 4 == 2 ? 0 : 1);
        }
        due(x.count(1), 10);
    }
}
