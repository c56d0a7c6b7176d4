/**
 * For each promise of the document, ordinary inputs, the edges that it names,
 * and wrong inputs, with answers worked out by hand.
 */
public final class PromiseTest {
    private static int wrong = 0;
    private static int promise = 0;
    private static int asked = 0;

    public static void main(String[] args) {
        newObject();
        feed();
        end();
        told();
        toldFaults();
        fault();
        count();
        look();
        line();
        adds();
        cuts();
        label();
        sets();
        worth();
        seen();
        total();
        is();
        why();
        many();
        row();
        takes();
        could();
        sure();
        unlike();
        hint();
        key();
        spares();
        bars();
        span();
        reverse();
        mirrors();
        sprouts();
        edge();
        grafts();
        family();
        rule();
        drops();
        undo();
        tell();
        octet();
        System.out.println(asked + " answers looked at, " + wrong + " wrong");
        if (wrong != 0) {
            System.exit(1);
        }
    }

    private static void due(int got, int want) {
        asked++;
        if (got != want) {
            wrong++;
            int at = new Throwable().getStackTrace()[1].getLineNumber();
            System.out.println("promise " + promise + ", line " + at + ": answered " + got + ", due is " + want);
        }
    }

    /** The text comes on the tape, byte by byte, and nothing else. */
    private static void lay(FairLabels x, String text) {
        x.end(0);
        for (int i = 0; i < text.length(); i += 20) {
            int[] w = new int[5];
            for (int j = 0; j < 20; j++) {
                w[j / 4] = w[j / 4] << 8 | (i + j < text.length() ? text.charAt(i + j) : 0);
            }
            x.feed(w[0], w[1], w[2], w[3], w[4]);
        }
        x.end(text.length());
    }

    private static int tells(FairLabels x, int slot, String text) {
        lay(x, text);
        return x.told(slot);
    }

    private static FairLabels with(String text) {
        FairLabels x = new FairLabels();
        tells(x, 0, text);
        return x;
    }

    private static String out(FairLabels x) {
        StringBuilder b = new StringBuilder();
        for (int i = 0; i < x.count(3); i++) {
            b.append((char) x.octet(i));
        }
        return b.toString();
    }

    private static void labels(FairLabels x, int slot, String want) {
        x.tell(slot, 0);
        text(out(x), want);
    }

    private static void lines(FairLabels x, int slot, String want) {
        x.tell(slot, 1);
        text(out(x), want);
    }

    private static void text(String got, String want) {
        asked++;
        if (!got.equals(want)) {
            wrong++;
            int at = new Throwable().getStackTrace()[2].getLineNumber();
            System.out.println("promise " + promise + ", line " + at + ": told " + got + ", due is " + want);
        }
    }

    private static void newObject() {
        promise = 1;
        FairLabels x = new FairLabels();
        due(FairLabels.NONE, -1);
        for (int what = 0; what < 4; what++) {
            due(x.count(what), 0);
        }
        for (int s = 0; s < 3; s++) {
            due(x.look(s, 0), -2);
        }
        due(x.undo(), -1);
    }

    private static void feed() {
        promise = 2;
        FairLabels x = new FairLabels();
        for (int i = 1; i <= 20; i++) {
            due(x.feed(0, 0, 0, 0, 0), 20 * i);
        }
        due(x.feed(0, 0, 0, 0, 0), -1);
        due(x.count(2), 400);
        due(x.end(381), 381);
        due(x.feed(0, 0, 0, 0, 0), -1);
        due(x.count(2), 381);
        due(x.end(380), 380);
        due(x.feed(0, 0, 0, 0, 0), 400);
        due(x.end(0), 0);
        // "net2" then "; la" "bels" " 0=5" ";..." by highest byte first
        due(x.feed(0x6e657432, 0x3b206c61, 0x62656c73, 0x20303d35, 0x3bffffff), 20);
        due(x.end(17), 17);
        due(x.told(1), 0);
        due(x.label(1, 0), 5);
    }

    private static void end() {
        promise = 3;
        FairLabels x = new FairLabels();
        due(x.end(0), 0);
        due(x.end(1), -1);
        due(x.feed(1, 2, 3, 4, 5), 20);
        due(x.end(21), -1);
        due(x.end(-1), -1);
        due(x.end(Integer.MIN_VALUE), -1);
        due(x.count(2), 20);
        due(x.end(20), 20);
        due(x.end(7), 7);
        due(x.end(8), -1);
        due(x.count(2), 7);
    }

    private static void told() {
        promise = 4;
        FairLabels x = new FairLabels();
        due(tells(x, 0, "net 4:0-1,3-2,2-1;labels 3=99,0=0;"), 3);
        lines(x, 0, "net4:0-1,1-2,2-3;");
        labels(x, 0, "0,-,-,99");
        due(x.count(2), 0);
        due(tells(x, 1, "net1;"), 0);
        due(x.count(0), 3);
        lay(x, "net 3;");
        due(x.told(3), -2);
        due(x.told(-1), -2);
        due(x.count(2), 6);
        due(x.told(2), 0);
        due(x.look(2, 0), 3);
        due(x.count(2), 0);
        due(tells(x, 2, "net 0;"), -4);
        due(x.count(2), 0);
        due(x.look(2, 0), 3);
        due(x.count(1), 3);
        due(tells(x, 0, "\n net\n7 : 0-1 , 005 - 6;labels 1=07 ;\nlabels 2 = 00;labels 0=1,6=2; \n"), 2);
        labels(x, 0, "1,7,0,-,-,-,2");
        due(tells(x, 0, "net7:0-1,0-2,0-3,0-4,0-5,0-6,1-2,1-3,1-4,1-5;"), 10);
        due(tells(x, 0, "net7;labels0=0,1=1,2=2,3=3,4=4,5=5,6=6;"), 0);
        labels(x, 0, "0,1,2,3,4,5,6");
        due(x.count(1), 6);
    }

    private static void faulty(String t, int number, int place) {
        FairLabels x = new FairLabels();
        due(tells(x, 0, t), -4);
        due(x.fault(0), number);
        due(x.fault(1), place);
    }

    private static void toldFaults() {
        promise = 4;
        faulty("", 1, 0);
        faulty("  \n", 1, 3);
        faulty("nets 2;", 1, 0);
        faulty("netnet 2;", 1, 0);
        faulty("Net 2;", 1, 0);
        faulty("netz 2;", 1, 0);
        faulty("anet 2;", 1, 0);
        faulty("net{2;", 1, 3);
        faulty("net`2;", 1, 3);
        faulty("net/2;", 1, 3);
        faulty("net 2;labelz 0=1;", 1, 6);
        faulty(" labels 2;", 1, 1);
        faulty("net", 1, 3);
        faulty("net ;", 1, 4);
        faulty("net 2", 1, 5);
        faulty("net 2  ", 1, 7);
        faulty("net 2\t;", 1, 5);
        faulty("net 2" + (char) 200 + ";", 1, 5);
        faulty("net 2:;", 1, 6);
        faulty("net 2:0;", 1, 7);
        faulty("net 2:0-;", 1, 8);
        faulty("net 2:0-1", 1, 9);
        faulty("net 2:0-1,;", 1, 10);
        faulty("net 2:0-1:", 1, 9);
        faulty("net 2,0-1;", 1, 5);
        faulty("net 2;x", 1, 6);
        faulty("net 2;;", 1, 6);
        faulty("net 2;net 2;", 1, 6);
        faulty("net 2;label 0=1;", 1, 6);
        faulty("net 2;labels;", 1, 12);
        faulty("net 2;labels 0;", 1, 14);
        faulty("net 2;labels 0=;", 1, 15);
        faulty("net 2;labels 0=-;", 1, 15);
        faulty("net 2;labels 0=1", 1, 16);
        faulty("net 2;labels 0=1,;", 1, 17);
        faulty("net 2;labels 0=1:", 1, 16);
        faulty("net 2;labels 0-1;", 1, 14);
        faulty("net 0;", 2, 4);
        faulty("net 8;", 2, 4);
        faulty("net 00000000000000000000000000000000000018;", 2, 4);
        faulty("net 4294967297;", 2, 4);
        faulty("net 2:2-0;", 2, 6);
        faulty("net 2:0-2;", 2, 8);
        faulty("net 2:1-1;", 2, 8);
        faulty("net 2:1 - 01x", 2, 10);
        faulty("net 2;labels 2=1;", 2, 13);
        faulty("net 2;labels 0=100;", 2, 15);
        faulty("net 3:0-1,0-1;", 3, 12);
        faulty("net 3:0-1,1 -0;", 3, 13);
        faulty("net 2;labels 0=1,0=1;", 3, 17);
        faulty("net 2;labels 0=1;labels 1=0,0", 3, 28);
        String ten = "net 7:0-1,0-2,0-3,0-4,0-5,0-6,1-2,1-3,1-4,1-5";
        faulty(ten + ",1-6;", 4, 46);
        faulty(ten + ",0-1;", 4, 46);
        faulty(ten + ",1;", 4, 46);
        faulty(ten + ",9-1;", 2, 46);
        faulty(ten + ",;", 1, 46);
        faulty(ten + ":", 1, 45);
    }

    private static void fault() {
        promise = 5;
        FairLabels x = new FairLabels();
        due(x.fault(0), 0);
        due(x.fault(1), -1);
        due(x.fault(2), -1);
        due(x.fault(-1), -1);
        tells(x, 0, "net 2:0-0;");
        due(x.fault(0), 2);
        due(x.fault(1), 8);
        due(x.fault(2), -1);
        x.told(5);
        due(x.fault(0), 2);
        x.family(0, 3, 0, 0);
        x.undo();
        due(x.fault(1), 8);
        tells(x, 0, "net 2;");
        due(x.fault(0), 0);
        due(x.fault(1), -1);
    }

    private static void count() {
        promise = 6;
        FairLabels x = with("net 3;");
        x.family(0, 2, 0, 2);
        x.tell(0, 1);
        x.feed(0, 0, 0, 0, 0);
        due(x.count(0), 5);
        due(x.count(1), 2);
        due(x.count(2), 20);
        due(x.count(3), 5);
        due(x.count(4), -1);
        due(x.count(-1), -1);
    }

    private static void look() {
        promise = 7;
        FairLabels x = with("net 7:0-1,1-2,0-2,4-5;labels 0=3,6=0;");
        int[] want = {7, 4, 65, 0, 0, 4, 2, 0};
        for (int what = 0; what < 8; what++) {
            due(x.look(0, what), want[what]);
        }
        due(x.look(0, 8), -2);
        due(x.look(0, -1), -2);
        due(x.look(1, 0), -2);
        due(x.look(3, 0), -2);
        due(x.look(-1, 0), -2);
        x = with("net 1;");
        int[] one = {1, 0, 0, 1, 1, 1, 0, 0};
        for (int what = 0; what < 8; what++) {
            due(x.look(0, what), one[what]);
        }
        x = with("net 4:0-1,1-2,0-2;");
        due(x.look(0, 3), 0);
        due(x.look(0, 5), 2);
        due(with("net 4:0-2,1-3;").look(0, 4), 1);
        due(with("net 7:0-3,3-5,5-0,1-2;").look(0, 4), 0);
        due(with("net 7:1-2,4-5,5-6,6-4;").look(0, 4), 0);
        due(with("net 7:0-6,6-1,1-5,5-2,2-4,4-3;").look(0, 4), 1);
        due(with("net 7:0-6,6-1,1-5,5-2,2-4,4-3;").look(0, 5), 1);
        due(with("net 7:0-6,6-1,1-5,5-2,2-4,4-3,3-0;").look(0, 4), 0);
        x = with("net 6:5-0,5-1,5-2,4-2,4-3;");
        due(x.look(0, 3), 1);
        due(x.look(0, 4), 1);
        due(x.look(0, 6), 3);
        due(x.look(0, 7), 1);
    }

    private static void line() {
        promise = 8;
        FairLabels x = with("net 4:3-2,2-0,3-0;");
        due(x.line(0, 0, 0), 0);
        due(x.line(0, 0, 1), 2);
        due(x.line(0, 1, 1), 3);
        due(x.line(0, 2, 0), 2);
        due(x.line(0, 2, 1), 3);
        due(x.line(0, 3, 0), -1);
        due(x.line(0, 99, 2), -2);
        due(x.line(0, 0, 2), -2);
        due(x.line(0, 0, -1), -2);
        due(x.line(0, -1, 0), -2);
        due(x.line(1, 0, 0), -2);
    }

    private static void adds() {
        promise = 9;
        FairLabels x = with("net 7:0-1,0-2,0-3,0-4,0-5,0-6,1-2,1-3,1-4;");
        due(x.adds(0, 0, 0), -2);
        due(x.adds(0, 0, 7), -2);
        due(x.adds(0, -1, 0), -2);
        due(x.adds(1, 0, 1), -2);
        due(x.adds(3, 0, 1), -2);
        due(x.adds(0, 4, 1), -5);
        due(x.count(1), 1);
        due(x.adds(0, 5, 1), 10);
        due(x.count(1), 2);
        due(x.adds(0, 6, 1), -5);
        due(x.adds(0, 6, 6), -2);
        lines(x, 0, "net7:0-1,0-2,0-3,0-4,0-5,0-6,1-2,1-3,1-4,1-5;");
    }

    private static void cuts() {
        promise = 10;
        FairLabels x = with("net 4:0-1,1-2,2-3;labels 1=5;");
        due(x.cuts(0, 0, 2), -6);
        due(x.cuts(0, 0, 4), -2);
        due(x.cuts(0, -1, 0), -2);
        due(x.cuts(2, 0, 1), -2);
        due(x.cuts(0, 1, 1), -2);
        due(x.cuts(0, 0, 0), -2);
        due(x.cuts(0, 4, 4), -2);
        due(x.count(1), 1);
        lines(x, 0, "net4:0-1,1-2,2-3;");
        due(x.cuts(0, 2, 1), 2);
        lines(x, 0, "net4:0-1,2-3;");
        due(x.label(0, 1), 5);
        due(x.count(1), 2);
    }

    private static void label() {
        promise = 11;
        FairLabels x = with("net 3;labels 1=0,2=99;");
        due(x.label(0, 0), -1);
        due(x.label(0, 1), 0);
        due(x.label(0, 2), 99);
        due(x.label(0, 3), -2);
        due(x.label(0, -1), -2);
        due(x.label(1, 0), -2);
        due(x.label(-7, 0), -2);
    }

    private static void sets() {
        promise = 12;
        FairLabels x = with("net 2;");
        due(x.sets(0, 1, -1), -1);
        due(x.count(1), 1);
        due(x.sets(0, 1, 99), -1);
        due(x.sets(0, 1, 99), 99);
        due(x.count(1), 2);
        due(x.sets(0, 1, 100), -2);
        due(x.sets(0, 1, -2), -2);
        due(x.sets(0, 2, 1), -2);
        due(x.sets(0, -1, 1), -2);
        due(x.sets(1, 0, 1), -2);
        due(x.sets(0, 1, 0), 99);
        due(x.sets(0, 1, -1), 0);
        due(x.label(0, 1), -1);
        due(x.count(1), 4);
    }

    private static void worth() {
        promise = 13;
        FairLabels x = with("net 3:0-1,1-2;labels 0=7,1=99;");
        due(x.worth(0, 0, 0), 92);
        due(x.worth(0, 0, 1), 106);
        due(x.worth(0, 1, 0), -1);
        due(x.worth(0, 2, 0), -1);
        due(x.worth(0, 2, 2), -2);
        due(x.worth(0, 0, -1), -2);
        due(x.worth(0, -1, 0), -2);
        due(x.worth(1, 0, 0), -2);
    }

    private static void seen() {
        promise = 14;
        FairLabels x = with("net 6:0-1,1-2,2-3,3-4,4-5;labels 0=0,1=30,2=61,3=61,4=31;");
        due(x.seen(0, 0), 1 << 30 | 1);
        due(x.seen(0, 1), 1 << 30);
        due(x.seen(0, 2), -2);
        due(x.seen(0, -1), -2);
        due(x.seen(1, 0), -2);
        x.sets(0, 5, 31);
        due(x.seen(0, 1), 1 << 30 | 1);
        due(with("net 3;labels 0=1,1=2;").seen(0, 0), 0);
    }

    private static void total() {
        promise = 15;
        FairLabels x = with("net 4:0-1,1-2;labels 0=99,1=0,2=9;");
        due(x.total(0, 0), -1);
        due(x.total(0, 1), -1);
        x.sets(0, 3, 50);
        due(x.total(0, 0), 158);
        due(x.total(0, 1), 108);
        due(x.total(0, 2), -2);
        due(x.total(0, -1), -2);
        due(x.total(1, 0), -2);
    }

    private static void kinds(String t, int... reasons) {
        FairLabels x = with(t);
        for (int k = 0; k < 5; k++) {
            due(x.why(0, k), reasons[k]);
            due(x.is(0, k), reasons[k] == 0 ? 1 : 0);
        }
    }

    private static void is() {
        promise = 16;
        FairLabels x = with("net 2:0-1;labels 0=0,1=1;");
        due(x.is(0, 0), 1);
        due(x.is(0, 2), 0);
        due(x.is(0, 5), -2);
        due(x.is(0, -1), -2);
        due(x.is(1, 0), -2);
        due(with("net 2:0-1;labels 0=0,1=0;").is(0, 2), 1);
        due(with("net 3:0-1,1-2,0-2;labels 0=0,1=1,2=2;").is(0, 2), 1);
    }

    private static void why() {
        promise = 17;
        kinds("net 3:0-1,1-2;labels 0=0,1=2;", 1, 1, 1, 1, 1);
        kinds("net 3:0-1,1-2;labels 0=0,1=2,2=1;", 0, 0, 2, 5, 2);
        kinds("net 3:0-1,1-2;labels 0=0,1=3,2=2;", 2, 2, 2, 0, 2);
        kinds("net 3:0-1,1-2;labels 0=0,1=1,2=2;", 4, 4, 2, 4, 2);
        kinds("net 3:0-1,1-2;labels 0=0,1=1,2=1;", 3, 3, 0, 3, 0);
        kinds("net 3:0-1,1-2;labels 0=0,1=0,2=0;", 3, 3, 3, 3, 5);
        kinds("net 3:0-1,1-2;labels 0=0,1=1,2=0;", 3, 3, 4, 3, 5);
        kinds("net 4:0-1,1-2,2-3;labels 0=0,1=0,2=1,3=1;", 3, 3, 3, 3, 0);
        kinds("net 4:0-1,1-2,2-3;labels 0=0,1=1,2=0,3=1;", 3, 3, 3, 3, 5);
        kinds("net 3:0-1,1-2,0-2;labels 0=0,1=1,2=3;", 0, 5, 2, 5, 2);
        kinds("net 1;labels 0=0;", 0, 0, 2, 2, 0);
        kinds("net 1;labels 0=1;", 2, 2, 2, 2, 0);
        kinds("net 2;labels 0=0,1=1;", 2, 2, 2, 2, 0);
        // a tree with one label twice, and with one three times
        kinds("net 4:0-1,0-2,0-3;labels 0=0,1=0,2=1,3=2;", 3, 3, 0, 3, 2);
        kinds("net 4:0-1,0-2,0-3;labels 0=1,1=1,2=1,3=2;", 3, 3, 3, 3, 2);
        kinds("net 5:0-1,1-2,2-3,3-4;labels 0=3,1=1,2=4,3=0,4=2;", 4, 4, 2, 4, 2);
        kinds("net 5:0-1,1-2,2-3,2-4;labels 0=2,1=1,2=4,3=0,4=3;", 4, 4, 2, 4, 2);
        kinds("net 5:0-1,1-2,2-3,3-4;labels 0=2,1=3,2=1,3=4,4=0;", 0, 0, 2, 5, 2);
        // differences 1, 2, 4, 3, but 2 is the lesser one and the greater one
        kinds("net 5:0-1,1-2,2-3,3-4;labels 0=1,1=2,2=4,3=0,4=3;", 0, 5, 2, 5, 2);
        kinds("net 6:0-1,0-2,0-3,3-4,4-5;labels 0=0,1=5,2=4,3=3,4=1,5=2;", 0, 0, 2, 5, 2);
        kinds("net 6:0-1,0-2,0-3,3-4,4-5;labels 0=5,1=0,2=1,3=2,4=4,5=3;", 0, 0, 2, 5, 2);
        kinds("net 6:0-1,0-2,2-3,2-4,4-5;labels 0=0,1=5,2=4,3=1,4=2,5=3;", 0, 0, 2, 5, 2);
        FairLabels x = with("net 2;");
        due(x.why(0, 5), -2);
        due(x.why(0, -1), -2);
        due(x.why(2, 0), -2);
    }

    private static void completions(String t, int... want) {
        FairLabels x = with(t);
        for (int k = 0; k < 5; k++) {
            due(x.many(0, k), want[k]);
        }
    }

    private static void many() {
        promise = 18;
        completions("net 1;", 1, 1, 0, 0, 2);
        completions("net 1;labels 0=1;", 0, 0, 0, 0, 1);
        completions("net 1;labels 0=2;", 0, 0, 0, 0, 0);
        completions("net 2:0-1;", 2, 2, 1, 2, 2);
        completions("net 2;", 0, 0, 0, 0, 2);
        completions("net 3:0-1,1-2;labels 0=50;", 0, 0, 0, 0, 0);
        // a ring of three: 0, 1, 3 and 0, 2, 3 at any points; 0, 1, 2 at any points
        completions("net 3:0-1,1-2,0-2;", 12, 0, 6, 0, 6);
        completions("net 3:0-1,1-2,0-2;labels 0=0,1=1;", 1, 0, 1, 0, 2);
        completions("net 3:0-1,1-2,0-2;labels 0=1,1=1;", 0, 0, 0, 0, 1);
        // trees have one label twice: no 0,0,1,1 though its sums are unlike
        due(with("net 3:0-1,1-2;").many(0, 2), 4);
        due(with("net 4:0-1,1-2,2-3;").many(0, 2), 12);
        due(with("net 4:0-1,1-2,2-3;labels 0=0,1=0,2=1;").many(0, 2), 0);
        due(with("net 4:0-1,1-2,2-3;labels 0=1,1=0,2=0;").many(0, 2), 1);
        // two lines and a point alone: E is 2, and three points are more
        due(with("net 4:0-1,2-3;").many(0, 0), 0);
        due(with("net 4:0-1,2-3;").many(0, 3), 8);
        // a star of six: the middle one has 0 or 6, the others what is left
        due(with("net 7:0-1,0-2,0-3,0-4,0-5,0-6;").many(0, 0), 1440);
        due(with("net 7:0-1,0-2,0-3,0-4,0-5,0-6;").many(0, 1), 1440);
        FairLabels x = with("net 2;");
        due(x.many(0, 5), -2);
        due(x.many(0, -1), -2);
        due(x.many(1, 0), -2);
    }

    private static void row() {
        promise = 19;
        FairLabels x = with("net 3:0-1,1-2,0-2;");
        String[] rows = {"013", "023", "031", "032", "103", "130", "203", "230", "301", "302", "310", "320"};
        for (int i = 0; i < 12; i++) {
            for (int p = 0; p < 3; p++) {
                due(x.row(0, 0, i, p), rows[i].charAt(p) - '0');
            }
        }
        due(x.row(0, 0, 12, 0), -1);
        due(x.row(0, 0, Integer.MAX_VALUE, 0), -1);
        due(x.row(0, 0, 99, 3), -2);
        due(x.row(0, 0, -1, 0), -2);
        due(x.row(0, 5, 0, 0), -2);
        due(x.row(0, 0, 0, -1), -2);
        due(x.row(1, 0, 0, 0), -2);
        due(x.row(0, 1, 0, 0), -1);
        due(with("net 1;").row(0, 0, 0, 0), 0);
        due(with("net 1;").row(0, 0, 1, 0), -1);
        due(with("net 3:0-1,1-2;labels 1=2,2=1;").row(0, 0, 0, 0), 0);
        x.sets(0, 1, 3);
        due(x.row(0, 0, 0, 2), 1);
        due(x.row(0, 0, 1, 2), 2);
        due(x.row(0, 0, 2, 0), 1);
        due(x.row(0, 0, 3, 0), 2);
        due(x.row(0, 0, 3, 1), 3);
        due(x.row(0, 0, 4, 1), -1);
    }

    private static void takes() {
        promise = 20;
        FairLabels x = with("net 3:0-1,1-2,0-2;labels 1=3;");
        due(x.takes(0, 0, 4), -1);
        due(x.takes(0, 0, -1), -2);
        due(x.takes(0, 5, 0), -2);
        due(x.takes(1, 0, 0), -2);
        due(x.takes(0, 1, 0), -1);
        due(x.count(1), 1);
        due(x.takes(0, 0, 3), 2);
        labels(x, 0, "2,3,0");
        due(x.count(1), 2);
        due(x.takes(0, 0, 0), 0);
        due(x.count(1), 2);
        due(x.undo(), 1);
        labels(x, 0, "-,3,-");
        x = with("net 3:0-1,1-2;labels 1=2,2=1;");
        due(x.takes(0, 0, 0), 1);
        due(x.count(1), 2);
        labels(x, 0, "0,2,1");
    }

    private static void could() {
        promise = 21;
        FairLabels x = with("net 3:0-1,1-2,0-2;");
        due(x.could(0, 0, 0), 15);
        due(x.could(0, 1, 0), 0);
        due(x.could(0, 2, 0), 7);
        x.sets(0, 1, 3);
        due(x.could(0, 0, 1), 8);
        due(x.could(0, 0, 2), 7);
        x.sets(0, 0, 2);
        due(x.could(0, 0, 2), 1);
        due(x.could(0, 0, 3), -2);
        due(x.could(0, 0, -1), -2);
        due(x.could(0, 5, 0), -2);
        due(x.could(1, 0, 0), -2);
        // of ODD the greatest label is the bit 2 E less 1
        FairLabels k = new FairLabels();
        k.family(4, 2, 5, 0);
        for (int p = 0; p < 7; p++) {
            k.sets(0, p, -1);
        }
        due(k.could(0, 3, 0) >> 19, 1);
    }

    private static void sure() {
        promise = 22;
        FairLabels x = with("net 3:0-1,1-2,0-2;");
        due(x.sure(0, 0), 0);
        due(x.sure(0, 1), 0);
        x.sets(0, 1, 3);
        due(x.sure(0, 0), 2);
        x.sets(0, 0, 2);
        due(x.sure(0, 0), 7);
        x.sets(0, 2, 2);
        due(x.sure(0, 0), 0);
        due(x.sure(0, 5), -2);
        due(x.sure(1, 0), -2);
    }

    private static void unlike() {
        promise = 23;
        FairLabels x = with("net 3:0-1,1-2,0-2;");
        due(x.unlike(0, 0), 6);
        due(x.unlike(0, 1), 0);
        due(x.unlike(0, 2), 2);
        x.sets(0, 0, 0);
        due(x.unlike(0, 0), 4);
        due(x.unlike(0, 2), 2);
        x = with("net 1;");
        due(x.unlike(0, 0), 1);
        due(x.unlike(0, 4), 1);
        due(x.unlike(0, 2), 0);
        x = with("net 2:0-1;");
        due(x.unlike(0, 0), 1);
        due(x.unlike(0, 2), 1);
        due(x.unlike(0, 3), 1);
        due(x.unlike(0, 4), 1);
        // 1 stays 1 when turned by 2: 1,0,2 and 1,2,0 are one
        x = with("net 3:0-1,1-2;labels 0=1;");
        due(x.many(0, 0), 2);
        due(x.unlike(0, 0), 1);
        due(with("net 4:0-1,1-2,2-3;").unlike(0, 2), 4);
        due(x.unlike(0, 5), -2);
        due(x.unlike(2, 0), -2);
    }

    private static void hint() {
        promise = 24;
        FairLabels x = with("net 3:0-1,1-2,0-2;");
        due(x.hint(0, 0), 0);
        due(x.hint(0, 1), -6);
        x.sets(0, 0, 1);
        due(x.hint(0, 0), 1);
        x.sets(0, 1, 0);
        due(x.hint(0, 0), 2);
        x.sets(0, 2, 0);
        due(x.hint(0, 0), -1);
        due(x.hint(0, 1), -1);
        due(x.hint(0, 5), -2);
        due(x.hint(1, 0), -2);
        // a star's middle has 0 and 3 alone, the others all four
        due(with("net 4:3-0,3-1,3-2;").hint(0, 0), 3);
    }

    private static void key() {
        promise = 25;
        FairLabels x = with("net 3:0-1,1-2,0-2;labels 0=0,1=1,2=3;");
        due(x.key(0, 0), 2 | 1);
        due(x.key(0, 1), -6);
        due(x.key(0, 5), -2);
        due(x.key(1, 0), -2);
        due(with("net 1;labels 0=0;").key(0, 0), 0);
        due(with("net 1;labels 0=0;").key(0, 4), 1);
        due(with("net 2:0-1;labels 0=0,1=0;").key(0, 2), 0);
        due(with("net 2:0-1;labels 0=1,1=0;").key(0, 0), 1);
        due(with("net 3:0-1,1-2;labels 0=0,1=2,2=1;").key(0, 0), 1);
        due(with("net 3:0-1,1-2;labels 0=1,1=2,2=0;").key(0, 0), 4);
        due(with("net 3:0-1,1-2;labels 0=1;").key(0, 0), -6);
    }

    private static void spares() {
        promise = 26;
        // without any line of a ring of three, a path
        FairLabels x = with("net 3:0-1,1-2,0-2;labels 0=50;");
        due(x.spares(0, 0), 7);
        due(x.spares(0, 1), 7);
        due(x.spares(0, 2), 7);
        due(x.spares(0, 3), 7);
        due(x.spares(0, 4), 7);
        due(x.spares(0, 5), -2);
        due(x.spares(1, 0), -2);
        // a triangle with a tail: without the tail a point hangs alone
        x = with("net 4:0-1,0-2,1-2,2-3;");
        due(x.spares(0, 0), 15);
        due(x.spares(0, 1), 7);
        due(x.spares(0, 3), 7);
        due(with("net 2:0-1;").spares(0, 0), 0);
        due(with("net 2:0-1;").spares(0, 4), 1);
        due(with("net 2;").spares(0, 4), 0);
    }

    private static void barred(String t, int... want) {
        FairLabels x = with(t);
        for (int k = 0; k < 5; k++) {
            due(x.bars(0, k), want[k]);
        }
    }

    private static void bars() {
        promise = 27;
        barred("net 1;", 0, 0, 1, 1, 0);
        barred("net 2;", 1, 1, 1, 1, 0);
        barred("net 2:0-1;", 0, 0, 0, 0, 0);
        barred("net 3:0-1;", 1, 1, 1, 1, 0);
        barred("net 3:0-1,1-2,0-2;", 0, 1, 0, 1, 0);
        barred("net 4:0-1,1-2,0-2;", 0, 1, 1, 1, 0);
        barred("net 4:0-1,1-2,2-3,0-3;", 0, 0, 0, 0, 0);
        barred("net 5:0-1,1-2,2-3,3-4,0-4;", 1, 1, 0, 1, 0);
        barred("net 6:0-1,1-2,2-3,3-4,4-5,0-5;labels 0=1;", 1, 1, 1, 0, 1);
        barred("net 7:0-1,1-2,2-3,3-4,4-5,0-5;", 1, 1, 1, 0, 1);
        barred("net 7:0-1,1-2,2-3,0-3,3-4,4-5,5-6,3-6;", 0, 0, 0, 0, 0);
        // all twos of five: all have 4 lines, 8 does not go into 10
        barred("net 5:0-1,0-2,0-3,0-4,1-2,1-3,1-4,2-3,2-4,3-4;", 1, 1, 1, 1, 1);
        // two sides, two and four: 4 lines and 2 lines at points, 4 goes into 8
        barred("net 6:0-2,0-3,0-4,0-5,1-2,1-3,1-4,1-5;", 0, 0, 0, 0, 0);
        FairLabels x = with("net 2;");
        due(x.bars(0, 5), -2);
        due(x.bars(0, -1), -2);
        due(x.bars(1, 0), -2);
    }

    private static void span() {
        promise = 28;
        due(with("net 1;").span(0), 0);
        due(with("net 5;labels 0=99;").span(0), 4);
        due(with("net 7:0-1;").span(0), 6);
        due(with("net 3:0-1,1-2,0-2;").span(0), 3);
        due(with("net 5:0-1,1-2,2-3,3-4,0-4;").span(0), 6);
        due(with("net 6:0-1,1-2,0-2,3-4,4-5,3-5;").span(0), 7);
        FairLabels x = new FairLabels();
        x.family(3, 5, 0, 1);
        due(x.span(1), 11);
        due(x.span(0), -2);
        due(x.span(3), -2);
    }

    private static void reverse() {
        promise = 29;
        FairLabels x = with("net 4:0-1,1-2;labels 0=0,1=2,2=2;");
        due(x.reverse(0), -6);
        x.sets(0, 3, 3);
        due(x.reverse(0), -6);
        x.sets(0, 3, 1);
        due(x.count(1), 3);
        due(x.reverse(0), 4);
        labels(x, 0, "2,0,0,1");
        due(x.count(1), 4);
        due(x.reverse(1), -2);
        due(x.reverse(3), -2);
        x = with("net 1;labels 0=0;");
        due(x.reverse(0), 1);
        due(x.count(1), 2);
    }

    private static void mirrors() {
        promise = 30;
        FairLabels x = new FairLabels();
        x.family(1, 3, 0, 0);
        x.takes(0, 0, 0);
        due(x.mirrors(0), 0);
        labels(x, 0, "0,3,2,1");
        due(x.reverse(0), 4);
        due(x.mirrors(0), 2);
        labels(x, 0, "3,2,1,0");
        due(x.count(1), 4);
        due(x.mirrors(1), -2);
        due(x.mirrors(-1), -2);
        due(with("net 1;labels 0=0;").mirrors(0), -6);
        due(with("net 3:0-1,1-2,0-2;labels 0=0,1=1,2=3;").mirrors(0), -6);
    }

    private static void sprouts() {
        promise = 31;
        FairLabels x = with("net 1;labels 0=0;");
        for (int n = 2; n <= 7; n++) {
            due(x.sprouts(0), n);
        }
        due(x.sprouts(0), -5);
        labels(x, 0, "0,1,2,3,4,5,6");
        lines(x, 0, "net7:0-1,0-2,0-3,0-4,0-5,0-6;");
        due(x.sprouts(1), -2);
        x = with("net 3:0-1,1-2;labels 0=1,1=2,2=0;");
        due(x.sprouts(0), 4);
        lines(x, 0, "net4:0-1,1-2,2-3;");
        labels(x, 0, "1,2,0,3");
        due(x.count(1), 2);
        due(with("net 3:0-1,1-2;labels 0=1,1=2;").sprouts(0), -6);
        due(with("net 3:0-1,1-2;labels 0=1,1=0,2=1;").sprouts(0), -6);
        due(with("net 7:0-1;").sprouts(0), -5);
        due(with("net 5:0-1,0-2,0-3,0-4,1-2,1-3,1-4,2-3,2-4,3-4;").sprouts(0), -5);
    }

    private static void edge() {
        promise = 32;
        FairLabels x = new FairLabels();
        x.family(0, 7, 0, 0);
        due(x.edge(0), 3);
        x.family(4, 2, 5, 0);
        due(x.edge(0), 1);
        x.family(3, 3, 0, 0);
        due(x.edge(0), -6);
        due(x.edge(1), -2);
        due(x.edge(3), -2);
        due(with("net 1;labels 0=0;").edge(0), -6);
        due(with("net 2:0-1;labels 0=1,1=0;").edge(0), 0);
        due(with("net 2:0-1;labels 0=1;").edge(0), -6);
    }

    private static void grafts() {
        promise = 33;
        FairLabels x = new FairLabels();
        x.family(2, 4, 0, 0);
        x.family(3, 4, 0, 1);
        x.sets(1, 0, 6);
        x.sets(1, 1, 5);
        x.sets(1, 2, 2);
        x.sets(1, 3, 0);
        due(x.grafts(0, 1, 2), 7);
        // the ring's 0,4,1,2 with 6 more above 1; the other's 6,5,2 with 1 more
        labels(x, 2, "0,10,1,8,7,6,3");
        lines(x, 2, "net7:0-1,0-3,1-2,2-3,2-4,2-5,2-6,4-5,4-6,5-6;");
        due(x.is(2, 0), 1);
        due(x.grafts(1, 0, 2), -6);
        due(x.grafts(2, 2, 2), -5);
        due(x.grafts(0, 1, 3), -2);
        due(x.grafts(0, 1, -1), -2);
        due(x.grafts(0, 3, 1), -2);
        due(x.grafts(-1, 1, 1), -2);
        x.drops(2);
        due(x.grafts(0, 2, 1), -2);
        due(x.grafts(2, 0, 1), -2);
        due(x.grafts(0, 0, 0), 7);
        labels(x, 0, "0,8,1,6,5,2,3");
        due(x.undo(), 8);
        labels(x, 0, "0,4,1,2");
        FairLabels y = with("net 1;labels 0=0;");
        y.family(0, 2, 0, 1);
        due(y.grafts(0, 1, 2), -6);
        due(y.grafts(1, 0, 2), 2);
        labels(y, 2, "0,1");
        y.sets(0, 0, 1);
        due(y.grafts(1, 0, 2), -6);
        y.family(3, 4, 0, 0);
        y.family(3, 4, 0, 1);
        due(y.grafts(0, 1, 2), -5);
        y.family(0, 7, 0, 0);
        y.family(0, 2, 0, 1);
        due(y.grafts(0, 1, 2), -5);
        due(y.grafts(1, 0, 2), -5);
    }

    private static void made(int what, int n, int m, String net, String labels) {
        FairLabels x = new FairLabels();
        int lines = net.split("-", -1).length - 1;
        due(x.family(what, n, m, 2), lines);
        lines(x, 2, net);
        labels(x, 2, labels);
        due(x.count(1), 1);
    }

    private static void family() {
        promise = 34;
        made(0, 2, -5, "net2:0-1;", "0,1");
        made(0, 7, 0, "net7:0-1,1-2,2-3,3-4,4-5,5-6;", "0,6,1,5,2,4,3");
        made(0, 6, 0, "net6:0-1,1-2,2-3,3-4,4-5;", "0,5,1,4,2,3");
        made(1, 1, 0, "net2:0-1;", "0,1");
        made(1, 6, 99, "net7:0-1,0-2,0-3,0-4,0-5,0-6;", "0,1,2,3,4,5,6");
        made(2, 3, 0, "net3:0-1,0-2,1-2;", "0,1,3");
        made(2, 4, 0, "net4:0-1,0-3,1-2,2-3;", "0,4,1,2");
        made(2, 5, 0, "net5:0-1,0-4,1-2,2-3,3-4;", "-,-,-,-,-");
        made(2, 6, 0, "net6:0-1,0-5,1-2,2-3,3-4,4-5;", "-,-,-,-,-,-");
        made(2, 7, 0, "net7:0-1,0-6,1-2,2-3,3-4,4-5,5-6;", "0,7,1,6,2,4,3");
        made(3, 2, 0, "net2:0-1;", "0,1");
        made(3, 3, 0, "net3:0-1,0-2,1-2;", "0,1,3");
        made(3, 4, 0, "net4:0-1,0-2,0-3,1-2,1-3,2-3;", "0,1,4,6");
        made(3, 5, 0, "net5:0-1,0-2,0-3,0-4,1-2,1-3,1-4,2-3,2-4,3-4;", "-,-,-,-,-");
        made(4, 1, 1, "net2:0-1;", "0,1");
        made(4, 2, 5, "net7:0-2,0-3,0-4,0-5,0-6,1-2,1-3,1-4,1-5,1-6;", "0,1,2,4,6,8,10");
        made(4, 5, 2, "net7:0-5,0-6,1-5,1-6,2-5,2-6,3-5,3-6,4-5,4-6;", "0,1,2,3,4,5,10");
        made(4, 6, 1, "net7:0-6,1-6,2-6,3-6,4-6,5-6;", "0,1,2,3,4,5,6");
        int[][] none = {{0, 1}, {0, 8}, {1, 0}, {1, 7}, {2, 2}, {2, 8}, {3, 1}, {3, 6}, {4, 0}, {4, 7}, {5, 3},
            {-1, 3}, {0, Integer.MIN_VALUE}, {4, Integer.MAX_VALUE}};
        FairLabels x = new FairLabels();
        for (int[] row : none) {
            due(x.family(row[0], row[1], 1, 0), -2);
        }
        due(x.family(4, 3, 0, 0), -2);
        due(x.family(4, 3, 4, 0), -2);
        due(x.family(4, 3, 5, 0), -2);
        due(x.family(4, 1, 7, 0), -2);
        due(x.family(4, 65536, 65536, 0), -2);
        due(x.family(4, 1, Integer.MAX_VALUE, 0), -2);
        due(x.family(4, 1, Integer.MIN_VALUE, 0), -2);
        due(x.family(0, 3, 0, 3), -2);
        due(x.family(0, 3, 0, -1), -2);
        due(x.count(0), 0);
        due(x.count(1), 0);
    }

    private static void rule() {
        promise = 35;
        FairLabels x = new FairLabels();
        due(x.rule(-1, -1, -1), 0);
        due(x.rule(0xffffff07, -1, -1), 100);
        due(x.rule(0xffff0707, -1, -1), 101);
        due(x.rule(0xffff00fe, -1, -1), 201);
        due(x.rule(0xff010000, -1, -1), 202);
        due(x.rule(0x03020100, -1, -1), 403);
        due(x.rule(0xff03ffff, 0xff01ffff, 0x00ffffff), 303);
        due(x.rule(0, 0, 0), 101);
        due(x.rule(0x03020100, 0x07060504, 0x0b0a0908), 1211);
        due(x.rule(0x08040201, 0x80402010, -1), 828);
        // twelve marks, and their differences counted another way
        due(x.rule(0x18060200, 0x372b261d, 0x554f4a45), 1200 + distinct(0, 2, 6, 24, 29, 38, 43, 55, 69, 74, 79, 85));
        due(x.rule(0x18060200, 0x443d2c1d, 0x555051 << 8 | 0x49), 1200
            + distinct(0, 2, 6, 24, 29, 44, 61, 68, 73, 81, 80, 85));
    }

    private static int distinct(int... row) {
        boolean[] there = new boolean[256];
        int many = 0;
        for (int a : row) {
            for (int b : row) {
                if (a > b && !there[a - b]) {
                    there[a - b] = true;
                    many++;
                }
            }
        }
        return many;
    }

    private static void drops() {
        promise = 36;
        FairLabels x = with("net 2;");
        due(x.drops(0), 1);
        due(x.drops(0), 0);
        due(x.drops(1), 0);
        due(x.drops(3), -2);
        due(x.drops(-1), -2);
        due(x.count(0), 0);
        due(x.count(1), 2);
        due(x.look(0, 0), -2);
        due(x.undo(), 1);
        due(x.look(0, 0), 2);
    }

    private static void undo() {
        promise = 37;
        FairLabels x = new FairLabels();
        due(x.undo(), -1);
        tells(x, 0, "net 3:0-1;");
        due(x.undo(), 0);
        due(x.count(0), 0);
        due(x.undo(), -1);
        tells(x, 0, "net 3:0-1;labels 0=7;");
        tells(x, 0, "net 1;");
        x.family(0, 3, 0, 1);
        x.grafts(1, 1, 1);
        due(x.undo(), 3);
        labels(x, 1, "0,2,1");
        due(x.undo(), 2);
        due(x.look(1, 0), -2);
        due(x.undo(), 1);
        labels(x, 0, "7,-,-");
        lines(x, 0, "net3:0-1;");
        for (int i = 0; i < 12; i++) {
            x.sets(0, 1, i);
        }
        due(x.count(1), 10);
        for (int i = 9; i >= 0; i--) {
            due(x.undo(), i);
            due(x.label(0, 1), i + 1);
        }
        due(x.undo(), -1);
        due(x.label(0, 1), 1);
        // a refused call is no act, and the tape and OUT are not brought back
        x.tell(0, 0);
        x.sets(0, 1, 50);
        lay(x, "net");
        x.adds(0, 0, 0);
        due(x.undo(), 0);
        due(x.count(2), 3);
        due(x.count(3), 5);
        x.adds(0, 1, 2);
        x.cuts(0, 0, 1);
        x.drops(0);
        due(x.undo(), 2);
        lines(x, 0, "net3:1-2;");
        due(x.undo(), 1);
        lines(x, 0, "net3:0-1,1-2;");
        due(x.undo(), 0);
        lines(x, 0, "net3:0-1;");
    }

    private static void tell() {
        promise = 38;
        FairLabels x = with("net 7:6-5,0-6;labels 1=0,2=9,3=10,4=99;");
        due(x.tell(0, 0), 15);
        text(out(x), "-,0,9,10,99,-,-");
        due(x.tell(0, 1), 13);
        text(out(x), "net7:0-6,5-6;");
        due(x.tell(0, 2), -2);
        due(x.tell(0, -1), -2);
        due(x.tell(1, 0), -2);
        due(x.tell(3, 0), -2);
        text(out(x), "net7:0-6,5-6;");
        tells(x, 1, "net1;");
        due(x.tell(1, 0), 1);
        text(out(x), "-");
        due(x.tell(1, 1), 5);
        text(out(x), "net1;");
        tells(x, 1, "net7:0-1,0-2,0-3,0-4,0-5,0-6,1-2,1-3,1-4,1-5;labels 0=10,1=11,2=12,3=13,4=14,5=15,6=16;");
        due(x.tell(1, 1), 45);
        due(x.tell(1, 0), 20);
    }

    private static void octet() {
        promise = 39;
        FairLabels x = with("net 2;labels 0=42;");
        due(x.octet(0), -1);
        due(x.octet(-1), -1);
        x.tell(0, 0);
        due(x.octet(0), '4');
        due(x.octet(1), '2');
        due(x.octet(2), ',');
        due(x.octet(3), '-');
        due(x.octet(4), -1);
        due(x.octet(-1), -1);
        due(x.octet(Integer.MAX_VALUE), -1);
        x.drops(0);
        x.tell(0, 0);
        due(x.octet(1), '2');
    }
}
