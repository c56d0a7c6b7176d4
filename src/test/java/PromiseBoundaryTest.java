import java.util.ArrayList;
import java.util.List;
import java.util.function.Supplier;
import java.util.function.ToIntFunction;

/**
 * Each sentence of each promise: just inside the bound that it names, just
 * outside it, and what stays when nothing is to happen.
 */
public final class PromiseBoundaryTest {
    private static final String PATH = "net 3:0-1,1-2;";
    private static final String GOOD_PATH = "net 3:0-1,1-2;labels 0=0,1=2,2=1;";
    private static final String RING = "net 3:0-1,0-2,1-2;";
    private static final String TEN = "net 7:0-1,0-2,0-3,0-4,0-5,0-6,1-2,1-3,1-4,1-5;";
    private static String where = "";

    public static void main(String[] args) {
        tape();
        told();
        fault();
        count();
        look();
        line();
        adds();
        cuts();
        label();
        sets();
        worth();
        seen();
        total();
        is();
        why();
        many();
        row();
        takes();
        could();
        sure();
        unlike();
        hint();
        key();
        spares();
        bars();
        span();
        reverse();
        mirrors();
        sprouts();
        edge();
        grafts();
        family();
        rule();
        drops();
        undo();
        tell();
        octet();
        String[] all = new String[39];
        for (int i = 0; i < all.length; i++) {
            all[i] = "Promise " + (i + 1);
        }
        Sentences.finish(all);
    }

    private static void promise(int number) {
        where = "Promise " + number;
    }

    private static void says(String words) {
        Sentences.says(where, words);
    }

    private static void due(int got, int want) {
        Sentences.due(got, want);
    }

    private static FairLabels with(String text) {
        return Sentences.with(text);
    }

    private static int tells(FairLabels x, int slot, String text) {
        return Sentences.tells(x, slot, text);
    }

    private static void labels(FairLabels x, int slot, String want) {
        Sentences.labels(x, slot, want);
    }

    private static void lines(FairLabels x, int slot, String want) {
        Sentences.lines(x, slot, want);
    }

    private static void stays(Supplier<FairLabels> maker, ToIntFunction<FairLabels> call, int want) {
        Sentences.stays(maker, call, want);
    }

    private static Supplier<FairLabels> having(String text) {
        return () -> with(text);
    }

    /** A text is on the tape, a net in slot 0, something in OUT, and the latest told() had a fault. */
    private static FairLabels rich(String text) {
        FairLabels x = with(GOOD_PATH);
        x.tell(0, 0);
        tells(x, 1, "net 2:0-0;");
        Sentences.lay(x, text);
        return x;
    }

    private static FairLabels fed(int bytes) {
        FairLabels x = new FairLabels();
        for (int i = 0; i < bytes; i += 20) {
            x.feed(0x6e657432, 0x3b202020, 0x20202020, 0x20202020, 0x20202020);
        }
        x.end(bytes);
        return x;
    }

    private static void tape() {
        promise(1);
        says("SLOTS have nothing.");
        FairLabels x = new FairLabels();
        for (int what = 0; what < 4; what++) {
            due(x.count(what), 0);
        }
        for (int s = 0; s < 3; s++) {
            due(x.look(s, 0), -2);
            due(x.drops(s), 0);
        }
        due(x.undo(), -1);
        due(x.octet(0), -1);
        due(FairLabels.NONE, -1);
        // two objects have nothing of one another
        FairLabels y = with(GOOD_PATH);
        due(x.count(0), 0);
        due(y.count(0), 1);

        promise(2);
        says("Twenty bytes come behind the TAPE, four of each number, the highest first: how many it has;");
        x = new FairLabels();
        due(x.feed(0x6e657432, 0x3b6c6162, 0x656c7330, 0x3d313233, 0xffffff80), 20);
        due(x.end(14), 14);
        // behind what there is: "net2;labels0=1" and "2;"
        due(x.feed(0x323b2020, 0x20202020, 0x20202020, 0x20202020, 0x20202020), 34);
        due(x.told(0), 0);
        labels(x, 0, "12,-");
        // the last byte of each number
        due(x.feed(0x6e657420, 0x333a302d, 0x312c302d, 0x322c312d, 0x323b2020), 20);
        due(x.told(0), 3);
        lines(x, 0, "0-1,0-2,1-2");
        // bytes with the highest bit: no sign comes of them
        due(x.feed(0x6e657433, 0x3bffffff, -1, -1, -1), 20);
        due(x.told(0), -4);
        due(x.fault(1), 5);
        due(x.feed(0x6e657433, 0x3b80a08a, 0, 0, 0), 20);
        due(x.told(0), -4);
        due(x.fault(0), 1);
        due(x.fault(1), 5);
        says("NONE, and none come, if it would have more than 400.");
        x = new FairLabels();
        for (int bytes = 20; bytes <= 400; bytes += 20) {
            due(x.feed(bytes, 0, 0, 0, 0), bytes);
        }
        due(x.feed(0, 0, 0, 0, 0), -1);
        due(x.count(2), 400);
        due(x.end(399), 399);
        due(x.feed(0, 0, 0, 0, 0), -1);
        due(x.end(381), 381);
        due(x.feed(0, 0, 0, 0, 0), -1);
        due(x.count(2), 381);
        due(x.end(380), 380);
        due(x.feed(0, 0, 0, 0, 0), 400);
        // a text of 400 bytes, and one of 381 of which the refused bytes would be a fault
        StringBuilder text = new StringBuilder("net 2:0-1;");
        while (text.length() < 388) {
            text.append(' ');
        }
        text.append("labels 1=99;");
        x = new FairLabels();
        due(tells(x, 0, text.toString()), 1);
        labels(x, 0, "-,99");
        Sentences.lay(x, text.substring(0, 381));
        due(x.feed(-1, -1, -1, -1, -1), -1);
        due(x.told(0), 1);
        stays(() -> rich(text.toString()), o -> o.feed(-1, -1, -1, -1, -1), -1);
        stays(() -> rich(text.substring(0, 381)), o -> o.feed(-1, -1, -1, -1, -1), -1);

        promise(3);
        says("The TAPE has its first n bytes alone: n;");
        due(new FairLabels().end(0), 0);
        x = fed(400);
        due(x.end(400), 400);
        due(x.end(399), 399);
        due(x.end(5), 5);
        due(x.count(2), 5);
        due(x.told(0), 0);
        x = rich("net 2;labels 0=123;");
        due(x.end(17), 17);
        due(x.feed(0x3b202020, 0x20202020, 0x20202020, 0x20202020, 0x20202020), 37);
        due(x.told(0), 0);
        labels(x, 0, "12,-");
        x = rich("net 2;");
        due(x.end(0), 0);
        due(x.told(0), -4);
        due(x.fault(1), 0);
        // a token ends where the tape ends, whatever was behind it
        Sentences.lay(x, "net 12;");
        due(x.end(5), 5);
        due(x.told(0), -4);
        due(x.fault(0), 1);
        due(x.fault(1), 5);
        Sentences.lay(x, "nets 12;");
        due(x.end(3), 3);
        due(x.told(0), -4);
        due(x.fault(1), 3);
        Sentences.lay(x, "net 2; \n; ");
        due(x.end(6), 6);
        due(x.told(0), 0);
        Sentences.lay(x, "net 2   ;");
        due(x.end(6), 6);
        due(x.told(0), -4);
        due(x.fault(1), 6);
        says("NONE, and nothing happens, if it has not so many, or n is below 0.");
        stays(FairLabels::new, o -> o.end(1), -1);
        stays(FairLabels::new, o -> o.end(-1), -1);
        stays(() -> rich("net 2;"), o -> o.end(7), -1);
        stays(() -> rich("net 2;"), o -> o.end(6), 6);
        stays(() -> rich("net 2;"), o -> o.end(-1), -1);
        stays(() -> rich("net 2;"), o -> o.end(400), -1);
        stays(() -> rich("net 2;"), o -> o.end(Integer.MAX_VALUE), -1);
        stays(() -> rich("net 2;"), o -> o.end(Integer.MIN_VALUE), -1);
        stays(() -> fed(400), o -> o.end(401), -1);
        // what end() left out does not come again
        x = rich("net 2;labels 0=1;");
        due(x.end(6), 6);
        due(x.end(17), -1);
        due(x.count(2), 6);
    }

    private static void told() {
        promise(4);
        says("The TAPE (empty then) tells the NET of a SLOT, with its LABELS: how many LINES.");
        FairLabels x = rich("net 4:3-2,1-0;labels 3=99,0=0;");
        due(x.told(1), 2);
        due(x.count(2), 0);
        lines(x, 1, "0-1,2-3");
        labels(x, 1, "0,-,-,99");
        labels(x, 0, "0,2,1");
        due(tells(x, 0, "net 1;"), 0);
        due(x.look(0, 0), 1);
        labels(x, 0, "-");
        due(tells(x, 2, TEN), 10);
        due(x.count(0), 7);
        // of the net that was there nothing is left
        due(tells(x, 2, "net 7;"), 0);
        due(x.look(2, 6), 0);
        labels(x, 2, "-,-,-,-,-,-,-");
        says("-4: a FAULT (the TAPE is empty, all else stays);");
        x = rich("net 2:0-1;labels 0=1,1=100;");
        due(x.told(0), -4);
        due(x.count(2), 0);
        due(x.count(0), 1);
        due(x.count(1), 1);
        labels(x, 0, "0,2,1");
        lines(x, 0, "0-1,1-2");
        Sentences.same(Sentences.out(x), "0,2,1");
        due(x.told(0), -4);
        due(x.fault(1), 0);
        x = rich("net 3;labels 0=5,1=6,2=7;x");
        due(x.told(1), -4);
        due(x.count(0), 1);
        due(x.look(1, 0), -2);
        due(x.undo(), 0);
        due(x.count(0), 0);
        says("-2: no such SLOT (the TAPE stays).");
        for (int s : new int[] {-1, 3, Integer.MIN_VALUE, Integer.MAX_VALUE}) {
            stays(() -> rich("net 2:0-1;"), o -> o.told(s), -2);
            stays(() -> rich("net 2:0-0;"), o -> o.told(s), -2);
        }
        x = rich("net 2:0-1;");
        due(x.told(3), -2);
        due(x.count(2), 10);
        due(x.told(2), 1);
    }

    private static void fault() {
        promise(5);
        says("Of the latest told() that was not -2, what 0: its FAULT, 0 without, 1: its place (NONE without).");
        FairLabels x = with("net 2:0-0;");
        due(x.fault(0), 2);
        due(x.fault(1), 8);
        // -2 is not such a one, nor is any other call
        Sentences.lay(x, "x");
        due(x.told(3), -2);
        due(x.told(-1), -2);
        due(x.family(0, 3, 0, 0), 2);
        due(x.undo(), 0);
        due(x.fault(0), 2);
        due(x.fault(1), 8);
        due(x.told(0), -4);
        due(x.fault(0), 1);
        due(x.fault(1), 0);
        due(tells(x, 0, "net 2;"), 0);
        due(x.fault(0), 0);
        due(x.fault(1), -1);
        due(x.undo(), 0);
        due(x.fault(0), 0);
        due(tells(x, 0, "net 2:0-1,0-1;"), -4);
        due(x.fault(0), 3);
        due(x.fault(1), 12);
        due(tells(x, 0, TEN.replace(";", ",1-6;")), -4);
        due(x.fault(0), 4);
        due(x.fault(1), 46);
        // the end of a tape with 400 bytes
        x = new FairLabels();
        for (int i = 0; i < 20; i++) {
            x.feed(0x20202020, 0x20202020, 0x20202020, 0x20202020, 0x20202020);
        }
        due(x.told(0), -4);
        due(x.fault(0), 1);
        due(x.fault(1), 400);
        says("NONE for another what, and ahead of any (what 1).");
        for (int what : new int[] {-1, 2, 3, Integer.MIN_VALUE, Integer.MAX_VALUE}) {
            due(new FairLabels().fault(what), -1);
            due(with("net 2:0-0;").fault(what), -1);
            due(with("net 2;").fault(what), -1);
        }
        x = new FairLabels();
        due(x.fault(1), -1);
        due(x.fault(0), 0);
        due(x.told(3), -2);
        due(x.fault(1), -1);
    }

    private static void count() {
        promise(6);
        says("0 SLOTS with a NET, as bits,");
        FairLabels x = new FairLabels();
        for (int bits = 0; bits < 8; bits++) {
            for (int s = 0; s < 3; s++) {
                if ((bits >> s & 1) != 0) {
                    x.family(0, 2, 0, s);
                } else {
                    x.drops(s);
                }
            }
            due(x.count(0), bits);
        }
        says("1 acts that can be undone,");
        x = new FairLabels();
        for (int i = 1; i <= 12; i++) {
            x.family(0, 2, 0, 0);
            due(x.count(1), Math.min(i, 10));
        }
        due(x.undo(), 9);
        due(x.count(1), 9);
        says("2 bytes of the TAPE,");
        due(new FairLabels().count(2), 0);
        due(fed(400).count(2), 400);
        due(fed(399).count(2), 399);
        due(rich("net 2;").count(2), 6);
        says("3 of OUT.");
        x = with(TEN);
        due(x.count(3), 0);
        x.tell(0, 1);
        due(x.count(3), 45);
        x.tell(0, 0);
        due(x.count(3), 13);
        says("NONE for others.");
        for (int what : new int[] {-1, 4, 5, Integer.MIN_VALUE, Integer.MAX_VALUE}) {
            stays(() -> rich("net 2;"), o -> o.count(what), -1);
        }
    }

    private static void looks(String text, int what, int want) {
        due(with(text).look(0, what), want);
    }

    private static void look() {
        promise(7);
        says("Of a NET, what 0: POINTS, 1: LINES,");
        looks("net 1;", 0, 1);
        looks("net 1;", 1, 0);
        looks(TEN, 0, 7);
        looks(TEN, 1, 10);
        says("2: POINTS with a LABEL, as bits,");
        looks("net 7;", 2, 0);
        looks("net 7;labels 0=0;", 2, 1);
        looks("net 7;labels 6=99;", 2, 64);
        looks("net 7;labels 0=1,1=1,2=1,3=1,4=1,5=1,6=1;", 2, 127);
        FairLabels x = with("net 1;labels 0=0;");
        x.sets(0, 0, -1);
        due(x.look(0, 2), 0);
        says("3: 1 if it is a TREE,");
        looks("net 1;", 3, 1);
        looks(PATH, 3, 1);
        looks(RING, 3, 0);
        looks("net 4:0-1,0-2,1-2;", 3, 0);
        says("4: 1 if it is TWO-SIDED, else 0,");
        looks("net 1;", 4, 1);
        looks(PATH, 4, 1);
        looks(RING, 4, 0);
        looks("net 4:0-1,0-3,1-2,2-3;", 4, 1);
        says("5: PARTS,");
        looks("net 1;", 5, 1);
        looks("net 7;", 5, 7);
        looks("net 7:0-6;", 5, 6);
        looks(RING, 5, 1);
        says("6: the most LINES at a POINT, 7: the fewest.");
        looks("net 1;", 6, 0);
        looks("net 1;", 7, 0);
        looks("net 7:6-0,6-1,6-2,6-3,6-4,6-5;", 6, 6);
        looks("net 7:6-0,6-1,6-2,6-3,6-4,6-5;", 7, 1);
        looks(TEN, 6, 6);
        looks(TEN, 7, 1);
        looks(RING, 7, 2);
        looks("net 5:0-1,0-2,0-3,0-4,1-2,1-3,1-4,2-3,2-4,3-4;", 7, 4);
        looks("net 4:0-1,0-2,1-2;", 7, 0);
        says("-2.");
        for (int what : new int[] {-1, 8, Integer.MIN_VALUE, Integer.MAX_VALUE}) {
            stays(() -> rich("net 2;"), o -> o.look(0, what), -2);
        }
        stays(() -> rich("net 2;"), o -> o.look(1, 0), -2);
        stays(() -> rich("net 2;"), o -> o.look(3, 0), -2);
    }

    private static void line() {
        promise(8);
        says("Of the i-th LINE (from 0), what 0: the lesser POINT, 1: the greater one.");
        FairLabels x = with("net 4:3-2,2-0,3-0;");
        due(x.line(0, 0, 0), 0);
        due(x.line(0, 0, 1), 2);
        due(x.line(0, 1, 0), 0);
        due(x.line(0, 1, 1), 3);
        due(x.line(0, 2, 0), 2);
        due(x.line(0, 2, 1), 3);
        x = with(TEN);
        due(x.line(0, 9, 0), 1);
        due(x.line(0, 9, 1), 5);
        says("NONE: not so many;");
        due(x.line(0, 10, 0), -1);
        due(x.line(0, 10, 1), -1);
        due(with("net 1;").line(0, 0, 0), -1);
        stays(having(PATH), o -> o.line(0, 2, 0), -1);
        stays(having(PATH), o -> o.line(0, Integer.MAX_VALUE, 1), -1);
        says("-2 (i below 0, too).");
        stays(having(PATH), o -> o.line(0, -1, 0), -2);
        stays(having(PATH), o -> o.line(0, Integer.MIN_VALUE, 0), -2);
        stays(having(PATH), o -> o.line(0, 0, 2), -2);
        stays(having(PATH), o -> o.line(0, 0, -1), -2);
        stays(having(PATH), o -> o.line(0, 2, 2), -2);
        stays(having(PATH), o -> o.line(1, 0, 0), -2);
    }

    private static void adds() {
        promise(9);
        says("A LINE more between two POINTS: how many there are.");
        FairLabels x = with("net 7;labels 3=8;");
        int lines = 0;
        for (int a = 6; lines < 10; a--) {
            for (int b = a - 1; b >= 0 && lines < 10; b--) {
                lines++;
                due(x.adds(0, lines % 2 == 0 ? a : b, lines % 2 == 0 ? b : a), lines);
            }
        }
        lines(x, 0, "0-6,1-5,1-6,2-5,2-6,3-5,3-6,4-5,4-6,5-6");
        labels(x, 0, "-,-,-,8,-,-,-");
        says("-5: there is one, there are 10;");
        stays(having(PATH), o -> o.adds(0, 0, 1), -5);
        stays(having(PATH), o -> o.adds(0, 1, 0), -5);
        stays(having(PATH), o -> o.adds(0, 2, 1), -5);
        due(with(PATH).adds(0, 2, 0), 3);
        stays(having(TEN), o -> o.adds(0, 6, 1), -5);
        stays(having(TEN), o -> o.adds(0, 0, 1), -5);
        x = with(TEN);
        due(x.cuts(0, 0, 1), 9);
        due(x.adds(0, 6, 1), 10);
        due(x.adds(0, 0, 1), -5);
        says("-2: there are none such (a and b one, too).");
        stays(having(PATH), o -> o.adds(0, 0, 0), -2);
        stays(having(PATH), o -> o.adds(0, 2, 2), -2);
        stays(having(TEN), o -> o.adds(0, 6, 6), -2);
        stays(having(PATH), o -> o.adds(0, 3, 0), -2);
        stays(having(PATH), o -> o.adds(0, 0, 3), -2);
        stays(having(PATH), o -> o.adds(0, -1, 0), -2);
        stays(having(PATH), o -> o.adds(0, 0, -1), -2);
        stays(having(PATH), o -> o.adds(0, 3, 3), -2);
        stays(having(PATH), o -> o.adds(1, 0, 2), -2);
        stays(having("net 1;"), o -> o.adds(0, 0, 0), -2);
    }

    private static void cuts() {
        promise(10);
        says("The LINE between two POINTS goes: how many there are.");
        FairLabels x = with(TEN.replace(";", ";labels 0=4,6=5;"));
        due(x.cuts(0, 5, 1), 9);
        due(x.cuts(0, 0, 1), 8);
        due(x.cuts(0, 0, 6), 7);
        lines(x, 0, "0-2,0-3,0-4,0-5,1-2,1-3,1-4");
        labels(x, 0, "4,-,-,-,-,-,5");
        x = with("net 2:0-1;");
        due(x.cuts(0, 1, 0), 0);
        due(x.look(0, 5), 2);
        says("-6: there is none;");
        due(x.cuts(0, 1, 0), -6);
        due(x.cuts(0, 0, 1), -6);
        stays(having(PATH), o -> o.cuts(0, 0, 2), -6);
        stays(having(PATH), o -> o.cuts(0, 2, 0), -6);
        says("-2: there are none such.");
        stays(having(PATH), o -> o.cuts(0, 0, 3), -2);
        stays(having(PATH), o -> o.cuts(0, 3, 0), -2);
        stays(having(PATH), o -> o.cuts(0, -1, 0), -2);
        stays(having(PATH), o -> o.cuts(0, 0, -1), -2);
        stays(having(PATH), o -> o.cuts(0, 1, 1), -2);
        stays(having(PATH), o -> o.cuts(0, 0, 0), -2);
        stays(having("net 1;"), o -> o.cuts(0, 0, 0), -2);
        stays(having(PATH), o -> o.cuts(1, 0, 1), -2);
    }

    private static void label() {
        promise(11);
        says("The LABEL of a POINT.");
        FairLabels x = with("net 7;labels 0=0,6=99;");
        due(x.label(0, 0), 0);
        due(x.label(0, 6), 99);
        says("NONE: it has none;");
        due(x.label(0, 1), -1);
        due(x.label(0, 5), -1);
        says("-2.");
        due(x.label(0, 7), -2);
        due(x.label(0, -1), -2);
        due(x.label(1, 0), -2);
        due(with("net 6;").label(0, 6), -2);
    }

    private static void sets() {
        promise(12);
        says("The LABEL of a POINT becomes l (0 .. 99; NONE: none): what it was (NONE).");
        FairLabels x = with(PATH);
        due(x.sets(0, 0, 0), -1);
        due(x.sets(0, 0, 99), 0);
        due(x.sets(0, 0, 99), 99);
        due(x.sets(0, 0, -1), 99);
        due(x.sets(0, 0, -1), -1);
        due(x.sets(0, 2, 98), -1);
        labels(x, 0, "-,-,98");
        lines(x, 0, "0-1,1-2");
        // two points may have one label
        due(x.sets(0, 1, 98), -1);
        labels(x, 0, "-,98,98");
        says("-2.");
        for (int l : new int[] {100, -2, Integer.MAX_VALUE, Integer.MIN_VALUE}) {
            stays(having(GOOD_PATH), o -> o.sets(0, 0, l), -2);
        }
        stays(having(GOOD_PATH), o -> o.sets(0, 3, 1), -2);
        stays(having(GOOD_PATH), o -> o.sets(0, -1, 1), -2);
        stays(having(GOOD_PATH), o -> o.sets(1, 0, 1), -2);
    }

    private static void worth() {
        promise(13);
        says("What a LINE (the i-th) has, what 0: the difference of its LABELS without sign, 1: their sum.");
        FairLabels x = with("net 4:0-1,1-2,2-3;labels 0=99,1=0,2=99,3=99;");
        due(x.worth(0, 0, 0), 99);
        due(x.worth(0, 1, 0), 99);
        due(x.worth(0, 2, 0), 0);
        due(x.worth(0, 0, 1), 99);
        due(x.worth(0, 2, 1), 198);
        says("NONE: one of them is not there, there are not so many LINES;");
        due(x.worth(0, 3, 0), -1);
        due(x.worth(0, Integer.MAX_VALUE, 1), -1);
        x.sets(0, 0, -1);
        due(x.worth(0, 0, 0), -1);
        due(x.worth(0, 0, 1), -1);
        x.sets(0, 0, 5);
        x.sets(0, 1, -1);
        due(x.worth(0, 0, 0), -1);
        due(x.worth(0, 1, 1), -1);
        x.sets(0, 2, -1);
        due(x.worth(0, 1, 0), -1);
        due(with("net 1;labels 0=3;").worth(0, 0, 0), -1);
        says("-2 (i below 0, too).");
        due(x.worth(0, -1, 0), -2);
        due(x.worth(0, Integer.MIN_VALUE, 1), -2);
        due(x.worth(0, 0, 2), -2);
        due(x.worth(0, 0, -1), -2);
        due(x.worth(0, 3, 2), -2);
        due(x.worth(1, 0, 0), -2);
    }

    private static void seen() {
        promise(14);
        says("Differences (0 .. 30 alone, as bits) that LINES have (both LABELS there), what 0: at all, 1: two and more of them.");
        FairLabels x = with("net 4:0-1,1-2,2-3;labels 0=0,1=30,2=30;");
        due(x.seen(0, 0), 1 << 30 | 1);
        due(x.seen(0, 1), 0);
        x.sets(0, 3, 0);
        due(x.seen(0, 0), 1 << 30 | 1);
        due(x.seen(0, 1), 1 << 30);
        x.sets(0, 3, 61);
        due(x.seen(0, 0), 1 << 30 | 1);
        due(x.seen(0, 1), 0);
        // 32 is not 0, 33 is not 1, 99 is not 3
        x = with("net 4:0-1,1-2,2-3;labels 0=0,1=32,2=65,3=64;");
        due(x.seen(0, 0), 2);
        due(x.seen(0, 1), 0);
        x = with("net 4:0-1,1-2,2-3;labels 0=0,1=99,2=99,3=99;");
        due(x.seen(0, 0), 1);
        due(x.seen(0, 1), 1);
        // three of one
        due(with("net 4:0-1,1-2,2-3;labels 0=5,1=6,2=7,3=8;").seen(0, 1), 2);
        due(with(PATH).seen(0, 0), 0);
        due(with(PATH + "labels 1=1;").seen(0, 0), 0);
        due(with("net 2;labels 0=1,1=2;").seen(0, 0), 0);
        says("-2.");
        due(x.seen(0, 2), -2);
        due(x.seen(0, -1), -2);
        due(x.seen(1, 0), -2);
    }

    private static void total() {
        promise(15);
        says("What LABELS come to together (what 0), differences of LINES (1).");
        FairLabels x = with("net 7:0-1,0-2,0-3,0-4,0-5,0-6;labels 0=0,1=99,2=99,3=99,4=99,5=99,6=99;");
        due(x.total(0, 0), 594);
        due(x.total(0, 1), 594);
        x.sets(0, 0, 99);
        due(x.total(0, 0), 693);
        due(x.total(0, 1), 0);
        due(with("net 1;labels 0=0;").total(0, 0), 0);
        due(with("net 1;labels 0=7;").total(0, 1), 0);
        says("NONE: a POINT has no LABEL;");
        for (int p = 0; p < 7; p += 6) {
            x.sets(0, p, -1);
            due(x.total(0, 0), -1);
            due(x.total(0, 1), -1);
            x.sets(0, p, 1);
        }
        // even one without lines
        due(with("net 3:0-1;labels 0=1,1=2;").total(0, 0), -1);
        due(with("net 3:0-1;labels 0=1,1=2;").total(0, 1), -1);
        due(with("net 1;").total(0, 1), -1);
        says("-2.");
        due(x.total(0, 2), -2);
        due(x.total(0, -1), -2);
        due(x.total(2, 0), -2);
        due(with("net 1;").total(0, 2), -2);
    }

    private static void is() {
        promise(16);
        says("1 if LABELS are of a KIND, else 0.");
        String[] are = {GOOD_PATH, GOOD_PATH, PATH + "labels 0=0,1=0,2=1;", PATH + "labels 0=0,1=3,2=2;",
            PATH + "labels 0=0,1=0,2=1;"};
        String[] areNot = {PATH + "labels 0=0,1=1,2=2;", RING + "labels 0=0,1=1,2=3;", PATH + "labels 0=0,1=1,2=0;",
            GOOD_PATH, PATH + "labels 0=0,1=1,2=0;"};
        for (int kind = 0; kind < 5; kind++) {
            due(with(are[kind]).is(0, kind), 1);
            due(with(areNot[kind]).is(0, kind), 0);
            due(with(PATH).is(0, kind), 0);
            due(with(PATH + "labels 0=0,1=1,2=99;").is(0, kind), 0);
        }
        says("-2.");
        due(with(GOOD_PATH).is(0, -1), -2);
        due(with(GOOD_PATH).is(0, 5), -2);
        due(with(GOOD_PATH).is(1, 0), -2);
    }

    private static void whyIs(String text, int... want) {
        FairLabels x = with(text);
        for (int kind = 0; kind < 5; kind++) {
            due(x.why(0, kind), want[kind]);
        }
    }

    private static void why() {
        promise(17);
        says("Why LABELS are not of a KIND, the first: 1 a POINT has none,");
        whyIs(PATH, 1, 1, 1, 1, 1);
        // out of bounds, alike and without label: the first reason
        whyIs(PATH + "labels 0=99,1=99;", 1, 1, 1, 1, 1);
        whyIs(PATH + "labels 1=99,2=99;", 1, 1, 1, 1, 1);
        whyIs("net 4:0-1,0-2,1-2;labels 0=0,1=1,2=3;", 1, 1, 1, 1, 1);
        says("2 one is out of its bounds,");
        whyIs(PATH + "labels 0=99,1=99,2=99;", 2, 2, 2, 2, 2);
        whyIs(PATH + "labels 0=3,1=3,2=3;", 2, 2, 2, 3, 2);
        whyIs(PATH + "labels 0=4,1=4,2=4;", 2, 2, 2, 2, 2);
        whyIs(PATH + "labels 0=2,1=2,2=2;", 3, 3, 2, 3, 2);
        whyIs(PATH + "labels 0=1,1=1,2=1;", 3, 3, 3, 3, 5);
        whyIs("net 1;labels 0=0;", 0, 0, 2, 2, 0);
        whyIs("net 1;labels 0=1;", 2, 2, 2, 2, 0);
        whyIs("net 1;labels 0=2;", 2, 2, 2, 2, 2);
        says("3 two are alike (HARMONIOUS of a TREE: more than one twice),");
        whyIs(PATH + "labels 0=0,1=0,2=0;", 3, 3, 3, 3, 5);
        whyIs(PATH + "labels 0=0,1=0,2=1;", 3, 3, 0, 3, 0);
        due(with("net 4:0-1,1-2,2-3;labels 0=0,1=0,2=1,3=1;").why(0, 2), 3);
        due(with("net 4:0-1,1-2,2-3;labels 0=0,1=0,2=1,3=2;").why(0, 2), 4);
        due(with("net 4:0-1,1-2,2-3;labels 0=1,1=0,2=0,3=2;").why(0, 2), 0);
        due(with("net 5:0-1,1-2,2-3,3-4;labels 0=0,1=1,2=0,3=1,4=2;").why(0, 2), 3);
        due(with(RING + "labels 0=0,1=0,2=1;").why(0, 2), 3);
        // alike and like worths: alike is told
        whyIs("net 4:0-1,2-3;labels 0=0,1=1,2=0,3=1;", 3, 3, 3, 3, 5);
        says("4 two LINES have like worths,");
        whyIs(PATH + "labels 0=0,1=1,2=2;", 4, 4, 2, 4, 2);
        whyIs(PATH + "labels 0=1,1=0,2=1;", 3, 3, 4, 3, 5);
        // like worths and even differences, like worths and no such k
        due(with("net 5:0-1,1-2,2-3,3-4;labels 0=0,1=2,2=4,3=1,4=6;").why(0, 3), 4);
        due(with(RING + "labels 0=0,1=1,2=2;").why(0, 1), 4);
        says("5 something else;");
        due(with(RING + "labels 0=0,1=1,2=3;").why(0, 1), 5);
        due(with(PATH + "labels 0=0,1=2,2=1;").why(0, 3), 5);
        due(with("net 2;labels 0=0,1=0;").why(0, 4), 5);
        due(with("net 4:0-1,2-3;labels 0=0,1=0,2=1,3=1;").why(0, 4), 5);
        says("0 they are. -2.");
        whyIs(GOOD_PATH, 0, 0, 2, 5, 2);
        due(with(RING + "labels 0=0,1=1,2=2;").why(0, 2), 0);
        due(with(PATH + "labels 0=0,1=3,2=2;").why(0, 3), 0);
        due(with(GOOD_PATH).why(0, 5), -2);
        due(with(GOOD_PATH).why(0, -1), -2);
        due(with(GOOD_PATH).why(1, 0), -2);
    }

    private static void manyAre(String text, int... want) {
        FairLabels x = with(text);
        for (int kind = 0; kind < 5; kind++) {
            due(x.many(0, kind), want[kind]);
        }
    }

    private static void many() {
        promise(18);
        says("COMPLETIONS of a KIND: how many.");
        manyAre("net 1;", 1, 1, 0, 0, 2);
        manyAre("net 1;labels 0=0;", 1, 1, 0, 0, 1);
        manyAre("net 1;labels 0=1;", 0, 0, 0, 0, 1);
        manyAre("net 1;labels 0=2;", 0, 0, 0, 0, 0);
        manyAre("net 2;", 0, 0, 0, 0, 2);
        manyAre("net 7;", 0, 0, 0, 0, 70);
        manyAre("net 2:0-1;", 2, 2, 1, 2, 2);
        manyAre(PATH, 4, 4, 4, 4, 4);
        manyAre(RING, 12, 0, 6, 0, 6);
        manyAre(GOOD_PATH, 1, 1, 0, 0, 0);
        manyAre(PATH + "labels 0=0,1=0,2=1;", 0, 0, 1, 0, 1);
        manyAre("net 4:0-1,0-2,1-2;", 12, 0, 0, 0, 6);
        manyAre(PATH + "labels 2=99;", 0, 0, 0, 0, 0);
        // seven points, six lines: the middle one has 0 or 6, the others what is left
        due(with("net 7:0-1,0-2,0-3,0-4,0-5,0-6;").many(0, 0), 1440);
        // of HARMONIOUS the six have all labels, the middle one any
        due(with("net 7:0-1,0-2,0-3,0-4,0-5,0-6;").many(0, 2), 4320);
        stays(having(PATH), o -> o.many(0, 0), 4);
        says("-2.");
        due(with(PATH).many(0, 5), -2);
        due(with(PATH).many(0, -1), -2);
        due(with(PATH).many(1, 0), -2);
    }

    private static void row() {
        promise(19);
        says("The LABEL of a POINT in the i-th COMPLETION (from 0).");
        FairLabels x = with(PATH);
        String rows = "021102120201";
        for (int i = 0; i < rows.length(); i++) {
            due(x.row(0, 0, i / 3, i % 3), rows.charAt(i) - '0');
        }
        for (int p = 0; p < 3; p++) {
            due(with(GOOD_PATH).row(0, 0, 0, p), "021".charAt(p) - '0');
            due(with(PATH + "labels 1=2,2=1;").row(0, 0, 0, p), "021".charAt(p) - '0');
            due(with(PATH + "labels 0=0;").row(0, 0, 0, p), "021".charAt(p) - '0');
        }
        due(with("net 1;").row(0, 0, 0, 0), 0);
        due(with("net 1;").row(0, 4, 0, 0), 0);
        due(with("net 1;").row(0, 4, 1, 0), 1);
        FairLabels star = with("net 7:0-1,0-2,0-3,0-4,0-5,0-6;");
        String first = "0123456";
        String last = "6543210";
        for (int p = 0; p < 7; p++) {
            due(star.row(0, 0, 0, p), first.charAt(p) - '0');
            due(star.row(0, 0, 1439, p), last.charAt(p) - '0');
        }
        stays(having(PATH), o -> o.row(0, 0, 3, 0), 2);
        says("NONE: not so many;");
        due(star.row(0, 0, 1440, 0), -1);
        due(x.row(0, 0, 4, 0), -1);
        due(x.row(0, 0, Integer.MAX_VALUE, 0), -1);
        due(with(GOOD_PATH).row(0, 0, 1, 0), -1);
        due(with(RING).row(0, 1, 0, 0), -1);
        due(with("net 1;").row(0, 2, 0, 0), -1);
        due(with("net 1;").row(0, 4, 2, 0), -1);
        says("-2 (i below 0, too).");
        due(x.row(0, 0, -1, 0), -2);
        due(x.row(0, 0, Integer.MIN_VALUE, 0), -2);
        due(x.row(0, 5, 0, 0), -2);
        due(x.row(0, -1, 0, 0), -2);
        due(x.row(0, 0, 0, 3), -2);
        due(x.row(0, 0, 0, -1), -2);
        due(x.row(1, 0, 0, 0), -2);
    }

    private static void takes() {
        promise(20);
        says("LABELS become the i-th COMPLETION: how many are new.");
        FairLabels x = with(PATH);
        due(x.takes(0, 0, 3), 3);
        labels(x, 0, "2,0,1");
        due(x.undo(), 1);
        due(x.takes(0, 0, 0), 3);
        labels(x, 0, "0,2,1");
        due(x.takes(0, 0, 0), 0);
        due(x.count(1), 2);
        x.sets(0, 1, -1);
        due(x.takes(0, 0, 0), 1);
        labels(x, 0, "0,2,1");
        lines(x, 0, "0-1,1-2");
        stays(having(GOOD_PATH), o -> o.takes(0, 0, 0), 0);
        says("NONE: not so many;");
        stays(having(PATH), o -> o.takes(0, 0, 4), -1);
        stays(having(PATH), o -> o.takes(0, 0, Integer.MAX_VALUE), -1);
        stays(having(GOOD_PATH), o -> o.takes(0, 0, 1), -1);
        stays(having(GOOD_PATH), o -> o.takes(0, 3, 0), -1);
        stays(having(RING), o -> o.takes(0, 1, 0), -1);
        says("-2 (i below 0, too).");
        stays(having(PATH), o -> o.takes(0, 0, -1), -2);
        stays(having(PATH), o -> o.takes(0, 0, Integer.MIN_VALUE), -2);
        stays(having(PATH), o -> o.takes(0, 5, 0), -2);
        stays(having(PATH), o -> o.takes(0, -1, 0), -2);
        stays(having(PATH), o -> o.takes(1, 0, 0), -2);
    }

    private static void could() {
        promise(21);
        says("LABELS that a POINT has in COMPLETIONS, as bits.");
        FairLabels x = with(PATH);
        due(x.could(0, 0, 0), 7);
        due(x.could(0, 0, 1), 5);
        due(x.could(0, 2, 0), 3);
        due(x.could(0, 3, 0), 15);
        due(x.could(0, 3, 1), 9);
        due(x.could(0, 4, 2), 3);
        due(with(RING).could(0, 1, 0), 0);
        due(with(GOOD_PATH).could(0, 0, 1), 4);
        due(with(GOOD_PATH).could(0, 3, 1), 0);
        due(with(PATH + "labels 0=0;").could(0, 0, 0), 1);
        due(with(PATH + "labels 0=99;").could(0, 0, 0), 0);
        // the greatest bits: 10 of GRACEFUL, 9 of HARMONIOUS, 19 of ODD
        x.family(4, 2, 5, 0);
        due(x.could(0, 0, 6), 1 << 10);
        x.sets(0, 6, -1);
        due(x.could(0, 0, 6), 1 << 10);
        tells(x, 1, "net 7:0-2,0-3,0-4,0-5,0-6,1-2,1-3,1-4,1-5,1-6;labels 0=0,1=2,2=3,3=7,4=11,5=15;");
        due(x.could(1, 3, 6), 1 << 19);
        says("-2.");
        x = with(PATH);
        due(x.could(0, 0, 3), -2);
        due(x.could(0, 0, -1), -2);
        due(x.could(0, 5, 0), -2);
        due(x.could(0, -1, 0), -2);
        due(x.could(1, 0, 0), -2);
    }

    private static void sure() {
        promise(22);
        says("POINTS that have one LABEL in all COMPLETIONS, as bits (0 without any).");
        due(with(PATH).sure(0, 0), 0);
        due(with(PATH + "labels 0=1;").sure(0, 0), 1);
        due(with(PATH + "labels 1=2;").sure(0, 0), 2);
        due(with(PATH + "labels 0=0;").sure(0, 0), 7);
        due(with(GOOD_PATH).sure(0, 0), 7);
        due(with("net 1;").sure(0, 0), 1);
        due(with("net 1;").sure(0, 4), 0);
        due(with("net 2:0-1;").sure(0, 2), 3);
        // without any completion: even labels told are not sure
        due(with("net 1;labels 0=1;").sure(0, 0), 0);
        due(with(PATH + "labels 0=0,1=1,2=2;").sure(0, 0), 0);
        due(with(RING + "labels 0=0;").sure(0, 1), 0);
        due(with("net 1;").sure(0, 2), 0);
        FairLabels x = new FairLabels();
        x.family(2, 7, 0, 0);
        due(x.sure(0, 0), 127);
        says("-2.");
        due(x.sure(0, 5), -2);
        due(x.sure(0, -1), -2);
        due(x.sure(1, 0), -2);
    }

    private static void unlikeAre(String text, int... want) {
        FairLabels x = with(text);
        for (int kind = 0; kind < 5; kind++) {
            due(x.unlike(0, kind), want[kind]);
        }
    }

    private static void unlike() {
        promise(23);
        says("How many COMPLETIONS there are, those that are one another TURNED counted as one");
        unlikeAre("net 1;", 1, 1, 0, 0, 1);
        unlikeAre("net 2:0-1;", 1, 1, 1, 1, 1);
        unlikeAre(PATH, 2, 2, 2, 2, 2);
        unlikeAre(RING, 6, 0, 2, 0, 3);
        unlikeAre(GOOD_PATH, 1, 1, 0, 0, 0);
        unlikeAre(PATH + "labels 1=0;", 2, 2, 2, 2, 2);
        // 1 turned by 2 stays 1
        unlikeAre(PATH + "labels 0=1;", 1, 1, 2, 1, 2);
        unlikeAre(PATH + "labels 0=50;", 0, 0, 0, 0, 0);
        due(with("net 7:0-1,0-2,0-3,0-4,0-5,0-6;").unlike(0, 0), 720);
        says("(of HARMONIOUS: that are one another with LABELS more by some number, modulo LINES).");
        due(with("net 2:0-1;").unlike(0, 2), 1);
        // 001, 011, 100, 110: with 1 more each, 110, 100, 011, 001
        due(with(PATH).unlike(0, 2), 2);
        // 001 and 011 begin alike, and are not one another
        due(with(PATH + "labels 0=0;").unlike(0, 2), 2);
        due(with(RING).unlike(0, 2), 2);
        due(with(RING + "labels 2=1;").unlike(0, 2), 2);
        due(with("net 4:0-1,1-2,2-3;").many(0, 2), 12);
        due(with("net 4:0-1,1-2,2-3;").unlike(0, 2), 4);
        due(with("net 7:0-1,0-2,0-3,0-4,0-5,0-6;").unlike(0, 2), 720);
        due(with("net 1;").unlike(0, 2), 0);
        says("-2.");
        due(with(PATH).unlike(0, 5), -2);
        due(with(PATH).unlike(0, -1), -2);
        due(with(PATH).unlike(1, 0), -2);
    }

    private static void hint() {
        promise(24);
        says("The POINT without LABEL that has the fewest LABELS in COMPLETIONS (of like ones the first).");
        due(with(RING).hint(0, 0), 0);
        due(with(PATH).hint(0, 0), 1);
        due(with(PATH).hint(0, 4), 0);
        due(with(PATH + "labels 1=2;").hint(0, 0), 0);
        due(with(PATH + "labels 0=1;").hint(0, 0), 1);
        due(with(PATH + "labels 0=0,2=1;").hint(0, 0), 1);
        due(with("net 4:3-0,3-1,3-2;").hint(0, 0), 3);
        due(with("net 7:6-0,6-1,6-2,6-3,6-4,6-5;").hint(0, 0), 6);
        due(with("net 1;").hint(0, 0), 0);
        says("NONE: all have one;");
        due(with(GOOD_PATH).hint(0, 0), -1);
        due(with(GOOD_PATH).hint(0, 3), -1);
        due(with("net 1;labels 0=0;").hint(0, 2), -1);
        says("-6: there are no COMPLETIONS;");
        due(with(RING).hint(0, 1), -6);
        due(with(PATH + "labels 1=1;").hint(0, 0), -6);
        due(with(PATH + "labels 0=0,1=1;").hint(0, 0), -6);
        due(with("net 1;").hint(0, 3), -6);
        says("-2.");
        due(with(GOOD_PATH).hint(0, 5), -2);
        due(with(RING).hint(0, -1), -2);
        due(with(RING).hint(1, 0), -2);
    }

    private static void key() {
        promise(25);
        says("The fewest POINTS, as bits, so that LABELS of these alone have just one COMPLETION; of as few the least number.");
        // none is needed, one is, two are
        due(with("net 1;labels 0=0;").key(0, 0), 0);
        due(with("net 2:0-1;labels 0=0,1=0;").key(0, 2), 0);
        due(with("net 1;labels 0=1;").key(0, 4), 1);
        due(with("net 2:0-1;labels 0=0,1=1;").key(0, 0), 1);
        due(with(GOOD_PATH).key(0, 0), 1);
        due(with(PATH + "labels 0=1,1=2,2=0;").key(0, 0), 4);
        due(with(PATH + "labels 0=1,1=0,2=2;").key(0, 1), 4);
        due(with(PATH + "labels 0=2,1=3,2=0;").key(0, 3), 1);
        due(with(PATH + "labels 0=0,1=0,2=1;").key(0, 2), 3);
        due(with(PATH + "labels 0=0,1=0,2=1;").key(0, 4), 3);
        due(with(RING + "labels 0=0,1=1,2=3;").key(0, 0), 3);
        // a star of six: the one with 6 says that the middle has 0, and four others leave one label for the last
        FairLabels x = new FairLabels();
        x.family(1, 6, 0, 0);
        due(x.key(0, 0), 64 | 2 | 4 | 8 | 16);
        due(x.reverse(0), 7);
        due(x.key(0, 0), 64 | 2 | 4 | 8 | 16);
        // of its own net, whatever came since
        x.family(0, 3, 0, 1);
        due(x.key(0, 0), 64 | 2 | 4 | 8 | 16);
        due(x.key(1, 0), 1);
        says("-6: LABELS are not of the KIND;");
        due(with(PATH).key(0, 0), -6);
        due(with(PATH + "labels 0=0,1=2;").key(0, 0), -6);
        due(with(GOOD_PATH).key(0, 3), -6);
        due(with(GOOD_PATH).key(0, 2), -6);
        due(with("net 1;labels 0=0;").key(0, 2), -6);
        says("-2.");
        due(with(GOOD_PATH).key(0, 5), -2);
        due(with(GOOD_PATH).key(0, -1), -2);
        due(with(GOOD_PATH).key(1, 0), -2);
    }

    private static void sparesAre(String text, int... want) {
        for (int kind = 0; kind < 5; kind++) {
            int k = kind;
            stays(having(text), o -> o.spares(0, k), want[kind]);
        }
    }

    private static void spares() {
        promise(26);
        says("LINES (by numbers, as bits) without which the NET, LABELS aside, has LABELS of a KIND.");
        sparesAre("net 1;", 0, 0, 0, 0, 0);
        sparesAre("net 2:0-1;", 0, 0, 0, 0, 1);
        sparesAre("net 2:0-1;labels 0=99,1=99;", 0, 0, 0, 0, 1);
        sparesAre(RING, 7, 7, 7, 7, 7);
        sparesAre(RING + "labels 0=50,1=50;", 7, 7, 7, 7, 7);
        sparesAre("net 4:0-1,0-2,1-2,2-3;", 15, 7, 7, 7, 15);
        // a ring of six and a line across: without it, barred by parity
        sparesAre("net 6:0-1,0-3,0-5,1-2,2-3,3-4,4-5;", 125, 125, 125, 127, 125);
        FairLabels x = with(TEN);
        due(x.spares(0, 4) >> 10, 0);
        says("-2.");
        due(x.spares(0, 5), -2);
        due(x.spares(0, -1), -2);
        due(x.spares(1, 0), -2);
    }

    private static void bars() {
        promise(27);
        says("1 if a KIND is BARRED (whatever LABELS there are), else 0.");
        String[] barred = {"net 5:0-1,0-4,1-2,2-3,3-4;", RING, "net 1;", RING, "net 6:0-1,0-5,1-2,2-3,3-4,4-5;"};
        String[] free = {RING, PATH, RING, PATH, RING};
        for (int kind = 0; kind < 5; kind++) {
            due(with(barred[kind]).bars(0, kind), 1);
            due(with(barred[kind] + "labels 0=0;").bars(0, kind), 1);
            due(with(free[kind]).bars(0, kind), 0);
            due(with(free[kind] + "labels 0=99,1=99,2=99;").bars(0, kind), 0);
        }
        // not barred, and yet there are no labels of the kind
        due(with("net 4:0-1,0-3,1-2,2-3;").many(0, 2), 0);
        due(with("net 4:0-1,0-3,1-2,2-3;").bars(0, 2), 0);
        says("-2.");
        due(with(PATH).bars(0, 5), -2);
        due(with(PATH).bars(0, -1), -2);
        due(with(PATH).bars(1, 0), -2);
    }

    private static void span() {
        promise(28);
        says("The least m so that POINTS can have LABELS 0 .. m, all unlike, with unlike differences of LINES "
            + "(LABELS told do not count).");
        due(with("net 1;").span(0), 0);
        due(with("net 2;").span(0), 1);
        due(with("net 2:0-1;").span(0), 1);
        due(with("net 7;").span(0), 6);
        due(with("net 7:0-1;").span(0), 6);
        due(with(PATH).span(0), 2);
        due(with(RING).span(0), 3);
        due(with("net 4:0-1,0-2,1-2;").span(0), 3);
        due(with("net 5:0-1,0-2,1-2;").span(0), 4);
        // barred of GRACEFUL: one more than LINES
        due(with("net 5:0-1,0-4,1-2,2-3,3-4;").span(0), 6);
        due(with("net 6:0-1,0-5,1-2,2-3,3-4,4-5;").span(0), 7);
        due(with("net 4:0-1,0-2,0-3,1-2,1-3,2-3;").span(0), 6);
        due(with("net 5:0-1,0-2,0-3,0-4,1-2,1-3,1-4,2-3,2-4,3-4;").span(0), 11);
        // not barred, and yet more than E and than POINTS less 1
        due(with("net 5:0-4,1-2,1-3,2-3;").span(0), 5);
        due(with("net 6:0-4,0-5,1-2,1-3,2-3;").span(0), 6);
        due(with("net 6:0-2,0-3,0-4,0-5,1-2,1-3,1-4,1-5,2-5,3-4;").span(0), 11);
        due(with("net 7:0-1,0-6,1-6,2-3,2-4,2-5,3-4,3-5,4-5;").span(0), 10);
        FairLabels x = with("net 5:0-4,1-2,1-3,2-3;");
        due(x.many(0, 4) > 0 ? 1 : 0, 1);
        due(x.span(0), 5);
        due(with(PATH + "labels 0=99,1=99,2=99;").span(0), 2);
        due(with(PATH + "labels 0=1,1=1,2=1;").span(0), 2);
        stays(having(GOOD_PATH), o -> o.span(0), 2);
        // every net has its lines among those of one with seven points and ten lines: 20 is far from all of them
        says("NONE: not by 20;");
        due(with("net 7:0-1,0-2,0-3,0-4,1-2,1-3,1-4,2-3,2-4,3-4;").span(0), 11);
        due(greatestSpan(), 11);
        says("-2.");
        due(with(PATH).span(1), -2);
        due(with(PATH).span(3), -2);
        due(with(PATH).span(-1), -2);
    }

    /** Of all nets of seven points and ten lines, one for each that are one another but for their points' numbers. */
    private static int greatestSpan() {
        boolean[] known = new boolean[1 << 21];
        List<int[]> orders = new ArrayList<>();
        addOrders(new int[] {0, 1, 2, 3, 4, 5, 6}, 0, orders);
        int nets = 0;
        int greatest = 0;
        for (int net = 0; net < known.length; net++) {
            if (Integer.bitCount(net) == 10 && !known[net]) {
                nets++;
                for (int[] order : orders) {
                    known[renumbered(net, order)] = true;
                }
                FairLabels x = with("net 7;");
                for (int a = 0, i = 0; a < 7; a++) {
                    for (int b = a + 1; b < 7; b++, i++) {
                        if ((net >> i & 1) != 0) {
                            x.adds(0, a, b);
                        }
                    }
                }
                int span = x.span(0);
                greatest = span < 10 ? 1000 : Math.max(greatest, span);
            }
        }
        due(nets, 148);
        return greatest;
    }

    private static void addOrders(int[] order, int at, List<int[]> all) {
        if (at == order.length) {
            all.add(order.clone());
        }
        for (int i = at; i < order.length; i++) {
            int[] next = order.clone();
            next[at] = order[i];
            next[i] = order[at];
            addOrders(next, at + 1, all);
        }
    }

    /** A net as bits, of 0-1, 0-2 and so on, with other numbers of its points. */
    private static int renumbered(int net, int[] order) {
        int bits = 0;
        for (int a = 0, i = 0; a < 7; a++) {
            for (int b = a + 1; b < 7; b++, i++) {
                if ((net >> i & 1) != 0) {
                    int low = Math.min(order[a], order[b]);
                    int high = Math.max(order[a], order[b]);
                    bits |= 1 << low * (13 - low) / 2 + high - low - 1;
                }
            }
        }
        return bits;
    }

    private static void reverse() {
        promise(29);
        says("LABELS, each E or less, become E less each: how many POINTS there are.");
        FairLabels x = with("net 4:0-1,1-2;labels 0=0,1=2,2=2,3=1;");
        due(x.reverse(0), 4);
        labels(x, 0, "2,0,0,1");
        lines(x, 0, "0-1,1-2");
        x = with("net 1;labels 0=0;");
        due(x.reverse(0), 1);
        labels(x, 0, "0");
        x.family(4, 2, 5, 0);
        due(x.reverse(0), 7);
        labels(x, 0, "10,9,8,6,4,2,0");
        says("-6: some POINT has none, or a greater one;");
        stays(having("net 4:0-1,1-2;labels 0=0,1=2,2=2;"), o -> o.reverse(0), -6);
        stays(having("net 4:0-1,1-2;labels 1=0,2=2,3=2;"), o -> o.reverse(0), -6);
        stays(having("net 4:0-1,1-2;labels 0=0,1=2,2=2,3=3;"), o -> o.reverse(0), -6);
        stays(having("net 4:0-1,1-2;labels 0=3,1=2,2=2,3=0;"), o -> o.reverse(0), -6);
        stays(having("net 1;labels 0=1;"), o -> o.reverse(0), -6);
        stays(having("net 1;"), o -> o.reverse(0), -6);
        says("-2.");
        stays(having(GOOD_PATH), o -> o.reverse(1), -2);
        stays(having(GOOD_PATH), o -> o.reverse(3), -2);
        stays(having(GOOD_PATH), o -> o.reverse(-1), -2);
    }

    private static void mirrors() {
        promise(30);
        says("LABELS that are ALPHA are MIRRORED: the EDGE (as it is then).");
        FairLabels x = with(GOOD_PATH);
        due(x.mirrors(0), 1);
        labels(x, 0, "1,2,0");
        due(x.edge(0), 1);
        due(x.mirrors(0), 1);
        labels(x, 0, "0,2,1");
        x = with("net 2:0-1;labels 0=1,1=0;");
        due(x.mirrors(0), 0);
        labels(x, 0, "1,0");
        due(x.count(1), 2);
        x.family(4, 2, 5, 0);
        due(x.mirrors(0), 1);
        labels(x, 0, "1,0,10,8,6,4,2");
        says("-6: they are not, there are no LINES;");
        stays(having(RING + "labels 0=0,1=1,2=3;"), o -> o.mirrors(0), -6);
        stays(having(PATH + "labels 0=0,1=1,2=2;"), o -> o.mirrors(0), -6);
        stays(having(PATH + "labels 0=0,1=2;"), o -> o.mirrors(0), -6);
        stays(having("net 1;labels 0=0;"), o -> o.mirrors(0), -6);
        stays(having("net 1;"), o -> o.mirrors(0), -6);
        stays(having("net 5:0-1,1-2,2-3,3-4;labels 0=1,1=2,2=4,3=0,4=3;"), o -> o.mirrors(0), -6);
        says("-2.");
        stays(having(GOOD_PATH), o -> o.mirrors(1), -2);
        stays(having(GOOD_PATH), o -> o.mirrors(3), -2);
        stays(having(GOOD_PATH), o -> o.mirrors(-1), -2);
    }

    private static void sprouts() {
        promise(31);
        says("A POINT more (the last one) with LABEL E and 1 and a LINE to the one with 0: how many POINTS there are.");
        FairLabels x = with("net 1;labels 0=0;");
        for (int n = 2; n <= 7; n++) {
            due(x.sprouts(0), n);
        }
        labels(x, 0, "0,1,2,3,4,5,6");
        lines(x, 0, "0-1,0-2,0-3,0-4,0-5,0-6");
        x = with(PATH + "labels 0=1,1=2,2=0;");
        due(x.sprouts(0), 4);
        labels(x, 0, "1,2,0,3");
        lines(x, 0, "0-1,1-2,2-3");
        // six points and nine lines: just room
        x = with("net 6:0-3,0-4,0-5,1-3,1-4,1-5,2-3,2-4,2-5;labels 0=0,1=1,2=2,3=3,4=6,5=9;");
        due(x.sprouts(0), 7);
        due(x.label(0, 6), 10);
        lines(x, 0, "0-3,0-4,0-5,0-6,1-3,1-4,1-5,2-3,2-4,2-5");
        due(x.is(0, 0), 1);
        says("-5: there are 7, or 10 LINES;");
        due(x.sprouts(0), -5);
        stays(having("net 7:0-1,0-2,0-3,0-4,0-5,0-6;labels 0=0,1=1,2=2,3=3,4=4,5=5,6=6;"), o -> o.sprouts(0), -5);
        stays(having("net 7;"), o -> o.sprouts(0), -5);
        stays(having("net 5:0-1,0-2,0-3,0-4,1-2,1-3,1-4,2-3,2-4,3-4;"), o -> o.sprouts(0), -5);
        // six points and ten lines, graceful
        FairLabels full = with("net 6:0-1,0-2,0-3,0-4,0-5,1-2,1-3,1-4,2-3,2-4;");
        due(full.takes(0, 0, 0), 6);
        due(full.is(0, 0), 1);
        due(full.sprouts(0), -5);
        says("-6: LABELS are not GRACEFUL;");
        stays(having(PATH), o -> o.sprouts(0), -6);
        stays(having(PATH + "labels 0=0,1=2;"), o -> o.sprouts(0), -6);
        stays(having(PATH + "labels 0=0,1=1,2=2;"), o -> o.sprouts(0), -6);
        stays(having(PATH + "labels 0=0,1=3,2=2;"), o -> o.sprouts(0), -6);
        stays(having("net 1;labels 0=1;"), o -> o.sprouts(0), -6);
        stays(having("net 1;"), o -> o.sprouts(0), -6);
        says("-2.");
        stays(having(GOOD_PATH), o -> o.sprouts(1), -2);
        stays(having(GOOD_PATH), o -> o.sprouts(3), -2);
        stays(having(GOOD_PATH), o -> o.sprouts(-1), -2);
    }

    private static void edge() {
        promise(32);
        says("The EDGE of LABELS that are ALPHA: the lesser LABEL of the LINE with difference 1.");
        due(with("net 2:0-1;labels 0=1,1=0;").edge(0), 0);
        due(with(GOOD_PATH).edge(0), 1);
        due(with("net 4:0-1,0-2,0-3;labels 0=3,1=0,2=1,3=2;").edge(0), 2);
        FairLabels x = new FairLabels();
        x.family(0, 7, 0, 0);
        due(x.edge(0), 3);
        x.family(4, 5, 2, 0);
        due(x.edge(0), 4);
        x.reverse(0);
        due(x.edge(0), 5);
        x.family(1, 6, 0, 0);
        x.reverse(0);
        due(x.edge(0), 5);
        says("-6: they are not, there are no LINES;");
        due(with(RING + "labels 0=0,1=1,2=3;").edge(0), -6);
        due(with(PATH + "labels 0=0,1=1,2=2;").edge(0), -6);
        due(with(PATH + "labels 0=0,1=2;").edge(0), -6);
        due(with("net 1;labels 0=0;").edge(0), -6);
        due(with("net 1;").edge(0), -6);
        due(with("net 5:0-1,1-2,2-3,3-4;labels 0=1,1=2,2=4,3=0,4=3;").edge(0), -6);
        says("-2.");
        due(with(GOOD_PATH).edge(1), -2);
        due(with(GOOD_PATH).edge(3), -2);
        due(with(GOOD_PATH).edge(-1), -2);
    }

    private static FairLabels pair(String one, String other) {
        FairLabels x = with(one);
        tells(x, 1, other);
        return x;
    }

    private static void grafts() {
        promise(33);
        String four = "net 4:0-1,0-3,1-2,2-3;labels 0=0,1=4,2=1,3=2;";
        String fullFour = "net 4:0-1,0-2,0-3,1-2,1-3,2-3;labels 0=0,1=1,2=4,3=6;";
        String one = "net 1;labels 0=0;";
        says("Into a SLOT comes the GRAFT of a NET (ALPHA LABELS, LINES) and another one (GRACEFUL LABELS): how many POINTS.");
        // seven points and ten lines, just room
        FairLabels x = pair(four, fullFour);
        due(x.grafts(0, 1, 2), 7);
        due(x.look(2, 1), 10);
        lines(x, 2, "0-1,0-3,1-2,2-3,2-4,2-5,2-6,4-5,4-6,5-6");
        labels(x, 2, "0,10,1,8,2,5,7");
        labels(x, 0, "0,4,1,2");
        labels(x, 1, "0,1,4,6");
        // into the one, into the other one, of one with itself
        x = pair(GOOD_PATH, four);
        due(x.grafts(0, 1, 0), 6);
        labels(x, 0, "0,6,1,5,2,3");
        labels(x, 1, "0,4,1,2");
        x = pair(GOOD_PATH, four);
        due(x.grafts(0, 1, 1), 6);
        labels(x, 1, "0,6,1,5,2,3");
        labels(x, 0, "0,2,1");
        x = with(GOOD_PATH);
        due(x.grafts(0, 0, 0), 5);
        labels(x, 0, "0,4,1,3,2");
        lines(x, 0, "0-1,1-2,2-3,3-4");
        // the other one may be without lines
        due(pair(GOOD_PATH, one).grafts(0, 1, 2), 3);
        x = with(one);
        x.family(0, 7, 0, 1);
        due(x.grafts(1, 0, 2), 7);
        labels(x, 2, "0,6,1,5,2,4,3");
        says("-5: there would be more than 7, or more than 10 LINES;");
        stays(() -> pair(four, "net 5:0-1,1-2,2-3,3-4;labels 0=0,1=4,2=1,3=3,4=2;"), o -> o.grafts(0, 1, 2), -5);
        stays(() -> pair(fullFour, "net 4:0-1,0-2,0-3,1-2,2-3;labels 0=0,1=5,2=1,3=3;"), o -> o.grafts(0, 1, 2), -5);
        due(pair("net 5:0-3,0-4,1-3,1-4,2-3,2-4;labels 0=0,1=1,2=2,3=3,4=6;", RING + "labels 0=0,1=1,2=3;")
            .grafts(0, 1, 2), 7);
        stays(() -> pair("net 6:0-3,0-4,0-5,1-3,1-4,1-5,2-3,2-4,2-5;labels 0=0,1=1,2=2,3=3,4=6,5=9;", GOOD_PATH),
            o -> o.grafts(0, 1, 2), -5);
        // eleven lines on seven points and less: 5 and 6, with 4 and 3 points
        stays(() -> pair("net 5:0-3,0-4,1-3,1-4,2-3,2-4;labels 0=0,1=1,2=2,3=3,4=6;",
            "net 4:0-1,0-2,0-3,1-2,2-3;"), o -> o.grafts(0, 1, 2), -5);
        stays(() -> pair("net 4:0-1,0-2,0-3,1-2,2-3;", fullFour), o -> o.grafts(0, 1, 2), -5);
        says("-6: LABELS are not so;");
        stays(() -> pair(one, GOOD_PATH), o -> o.grafts(0, 1, 2), -6);
        stays(() -> pair(RING + "labels 0=0,1=1,2=3;", GOOD_PATH), o -> o.grafts(0, 1, 2), -6);
        due(pair(GOOD_PATH, RING + "labels 0=0,1=1,2=3;").grafts(0, 1, 2), 5);
        stays(() -> pair(PATH, GOOD_PATH), o -> o.grafts(0, 1, 2), -6);
        stays(() -> pair(GOOD_PATH, PATH), o -> o.grafts(0, 1, 2), -6);
        stays(() -> pair(GOOD_PATH, PATH + "labels 0=0,1=1,2=2;"), o -> o.grafts(0, 1, 2), -6);
        stays(() -> pair(GOOD_PATH, "net 1;labels 0=1;"), o -> o.grafts(0, 1, 2), -6);
        stays(() -> pair(GOOD_PATH, "net 1;"), o -> o.grafts(0, 1, 2), -6);
        says("-2: there are none such.");
        for (int s : new int[] {-1, 3, Integer.MIN_VALUE, Integer.MAX_VALUE}) {
            stays(() -> pair(GOOD_PATH, four), o -> o.grafts(0, 1, s), -2);
            stays(() -> pair(GOOD_PATH, four), o -> o.grafts(0, s, 2), -2);
            stays(() -> pair(GOOD_PATH, four), o -> o.grafts(s, 1, 2), -2);
        }
        stays(() -> pair(GOOD_PATH, four), o -> o.grafts(0, 2, 2), -2);
        stays(() -> pair(GOOD_PATH, four), o -> o.grafts(2, 1, 2), -2);
    }

    private static void family() {
        promise(34);
        says("Into a SLOT comes a FAMILY: how many LINES.");
        int[][] sizes = {{0, 2, 1}, {0, 7, 6}, {1, 1, 1}, {1, 6, 6}, {2, 3, 3}, {2, 7, 7}, {3, 2, 1}, {3, 5, 10}};
        for (int[] size : sizes) {
            for (int s = 0; s < 3; s++) {
                FairLabels x = with(TEN);
                due(x.family(size[0], size[1], 0, s), size[2]);
                due(x.look(s, 1), size[2]);
                due(x.count(0), 1 | 1 << s);
                due(x.count(1), 2);
            }
        }
        due(new FairLabels().family(4, 1, 1, 0), 1);
        due(new FairLabels().family(4, 3, 3, 0), 9);
        due(new FairLabels().family(4, 2, 5, 0), 10);
        says("-2: there are none such (m is asked of 4 alone).");
        for (int m : new int[] {-1, 0, 7, 100, Integer.MIN_VALUE, Integer.MAX_VALUE}) {
            due(new FairLabels().family(0, 7, m, 0), 6);
            due(new FairLabels().family(1, 6, m, 0), 6);
            due(new FairLabels().family(2, 7, m, 0), 7);
            due(new FairLabels().family(3, 5, m, 0), 10);
            stays(having(GOOD_PATH), o -> o.family(4, 1, m, 0), -2);
        }
        stays(having(GOOD_PATH), o -> o.family(4, 3, 4, 0), -2);
        stays(having(GOOD_PATH), o -> o.family(4, 4, 3, 0), -2);
        stays(having(GOOD_PATH), o -> o.family(4, 2, 6, 0), -2);
        stays(having(GOOD_PATH), o -> o.family(4, 0, 2, 0), -2);
        stays(having(GOOD_PATH), o -> o.family(0, 1, 0, 0), -2);
        stays(having(GOOD_PATH), o -> o.family(5, 3, 1, 0), -2);
        stays(having(GOOD_PATH), o -> o.family(-1, 3, 1, 0), -2);
        stays(having(GOOD_PATH), o -> o.family(0, 3, 0, 3), -2);
        stays(having(GOOD_PATH), o -> o.family(0, 3, 0, -1), -2);
    }

    private static void rule() {
        promise(35);
        says("How many of a row of numbers, four of 8 bits in each (the lowest first, those that are 255 left out), "
            + "are unlike, and how many of their differences (without sign, all twos of places): "
            + "100 times the first and the second.");
        FairLabels x = with(GOOD_PATH);
        due(x.rule(-1, -1, -1), 0);
        // one number, at each of the twelve places
        for (int place = 0; place < 4; place++) {
            int only = ~(0xfe << 8 * place);
            due(x.rule(only, -1, -1), 100);
            due(x.rule(-1, only, -1), 100);
            due(x.rule(-1, -1, only), 100);
            due(x.rule(only, only, -1), 101);
            due(x.rule(only, -1, ~(0xff << 8 * place)), 201);
        }
        // 254 is a number, 255 is none
        due(x.rule(0xfffffe00, -1, -1), 201);
        due(x.rule(0xffffff00, -1, -1), 100);
        // like numbers have the difference 0: two places, and one number
        due(x.rule(0xffff0505, -1, -1), 101);
        due(x.rule(0xff050505, -1, -1), 101);
        due(x.rule(0xff060505, -1, -1), 202);
        due(x.rule(0xff050605, -1, -1), 202);
        due(x.rule(0xff040200, -1, -1), 302);
        due(x.rule(0x06040100, -1, -1), 406);
        due(x.rule(0x00010406, -1, -1), 406);
        // twelve places: all alike, all in a row, and from the one end to the other
        due(x.rule(0, 0, 0), 101);
        due(x.rule(0x03020100, 0x07060504, 0x0b0a0908), 1211);
        due(x.rule(0xfefefefe, 0xfefefefe, 0x00fefefe), 202);
        due(x.rule(Integer.MIN_VALUE, Integer.MIN_VALUE, Integer.MIN_VALUE), 202);
        due(x.rule(Integer.MAX_VALUE, -1, -1), 100);
        // twelve marks without like differences: 66 of them
        int[] marks = {0, 2, 6, 24, 29, 40, 43, 55, 68, 75, 76, 85};
        due(x.rule(packed(marks, 0), packed(marks, 4), packed(marks, 8)), 1266);
        stays(having(GOOD_PATH), o -> o.rule(0, 1, 2), 303);
    }

    private static int packed(int[] marks, int from) {
        return marks[from] | marks[from + 1] << 8 | marks[from + 2] << 16 | marks[from + 3] << 24;
    }

    private static void drops() {
        promise(36);
        says("A SLOT has nothing any more: 1 if it had a NET, else 0.");
        for (int s = 0; s < 3; s++) {
            FairLabels x = new FairLabels();
            for (int other = 0; other < 3; other++) {
                x.family(0, 2 + other, 0, other);
            }
            due(x.drops(s), 1);
            due(x.count(0), 7 & ~(1 << s));
            due(x.look(s, 0), -2);
            due(x.drops(s), 0);
            due(x.count(1), 4);
            due(x.undo(), 3);
            due(x.look(s, 0), 2 + s);
        }
        stays(having(GOOD_PATH), o -> o.drops(1), 0);
        stays(having(GOOD_PATH), o -> o.drops(2), 0);
        says("-2: no such SLOT.");
        for (int s : new int[] {-1, 3, Integer.MIN_VALUE, Integer.MAX_VALUE}) {
            stays(having(GOOD_PATH), o -> o.drops(s), -2);
        }
    }

    private static void undo() {
        promise(37);
        says("The latest act is undone: how many can be.");
        FairLabels x = new FairLabels();
        x.family(0, 3, 0, 0);
        x.sets(0, 0, 5);
        x.family(1, 2, 0, 1);
        x.drops(0);
        due(x.undo(), 3);
        labels(x, 0, "5,2,1");
        due(x.undo(), 2);
        due(x.count(0), 1);
        due(x.undo(), 1);
        labels(x, 0, "0,2,1");
        due(x.undo(), 0);
        due(x.count(0), 0);
        // ten acts and eleven: the first is out of reach
        for (int acts = 10; acts <= 11; acts++) {
            x = with("net 1;");
            for (int l = 1; l < acts; l++) {
                x.sets(0, 0, l);
            }
            for (int left = 9; left >= 0; left--) {
                due(x.undo(), left);
            }
            due(x.undo(), -1);
            due(x.count(0), acts == 10 ? 0 : 1);
        }
        // TAPE, OUT and the fault are not SLOTS
        x = with(GOOD_PATH);
        x.tell(0, 0);
        tells(x, 0, "net 0;");
        Sentences.lay(x, "net 2;");
        due(x.undo(), 0);
        due(x.count(2), 6);
        due(x.fault(0), 2);
        Sentences.same(Sentences.out(x), "0,2,1");
        says("NONE: none.");
        stays(FairLabels::new, FairLabels::undo, -1);
        due(x.undo(), -1);
        due(x.undo(), -1);
        due(x.count(1), 0);
        x.family(0, 2, 0, 0);
        due(x.count(1), 1);
        due(x.undo(), 0);
        due(x.undo(), -1);
    }

    private static void told(String text, int what, String want) {
        FairLabels x = with(text);
        due(x.tell(0, what), want.length());
        due(x.count(3), want.length());
        Sentences.same(Sentences.out(x), want);
    }

    private static void tell() {
        promise(38);
        says("What 0: LABELS are TOLD in OUT (- for none; , between),");
        told("net 1;", 0, "-");
        told("net 1;labels 0=0;", 0, "0");
        told("net 1;labels 0=99;", 0, "99");
        told("net 7;", 0, "-,-,-,-,-,-,-");
        told("net 7;labels 0=0,1=9,2=10,4=11,5=90,6=99;", 0, "0,9,10,-,11,90,99");
        told("net 7;labels 0=10,1=20,2=30,3=40,4=50,5=60,6=70;", 0, "10,20,30,40,50,60,70");
        says("1: the NET (as a TEXT without blanks, LINES by numbers, without LABELS): how many bytes.");
        told("net 1;", 1, "net1;");
        told("net 7;labels 0=1;", 1, "net7;");
        told("net 2:1-0;labels 0=5;", 1, "net2:0-1;");
        told("net 4:3-2, 1-0 ,2-1;", 1, "net4:0-1,1-2,2-3;");
        told("net 7:5-1,4-1,3-1,2-1,6-0,5-0,4-0,3-0,2-0,1-0;", 1, TEN.replace(" ", ""));
        // what is told can be told again
        FairLabels x = with("net 4:3-2, 1-0 ,2-1;");
        x.tell(0, 1);
        due(tells(x, 1, Sentences.out(x)), 3);
        lines(x, 1, "0-1,1-2,2-3");
        says("-2.");
        stays(() -> rich("net 2;"), o -> o.tell(0, 2), -2);
        stays(() -> rich("net 2;"), o -> o.tell(0, -1), -2);
        stays(() -> rich("net 2;"), o -> o.tell(1, 0), -2);
        stays(() -> rich("net 2;"), o -> o.tell(3, 1), -2);
    }

    private static void octet() {
        promise(39);
        says("Byte i of OUT (what was told in it last by a call that was not refused, whatever came since; empty ahead of any).");
        FairLabels x = new FairLabels();
        due(x.octet(0), -1);
        x = with(PATH + "labels 0=42;");
        due(x.octet(0), -1);
        due(x.tell(0, 1), 13);
        due(x.octet(12), ';');
        due(x.tell(0, 0), 6);
        Sentences.same(Sentences.out(x), "42,-,-");
        due(x.tell(0, 2), -2);
        due(x.tell(1, 1), -2);
        x.sets(0, 0, 7);
        x.drops(0);
        due(x.tell(0, 1), -2);
        tells(x, 0, "net 2;");
        x.undo();
        x.undo();
        due(x.octet(0), '4');
        due(x.octet(5), '-');
        Sentences.same(Sentences.out(x), "42,-,-");
        says("NONE: there is none such.");
        due(x.octet(6), -1);
        due(x.octet(12), -1);
        due(x.octet(-1), -1);
        due(x.octet(400), -1);
        due(x.octet(Integer.MIN_VALUE), -1);
        due(x.octet(Integer.MAX_VALUE), -1);
        due(new FairLabels().octet(-1), -1);
        stays(() -> rich("net 2;"), o -> o.octet(99), -1);
    }
}
