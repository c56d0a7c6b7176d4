/**
 * Each sentence of the document's Terms that names a boundary: just inside it,
 * just outside it, and what stays when a call is refused. The sentences on
 * SLOTS and on -2 have RefusalTest.
 */
public final class TermsBoundaryTest {
    private static final String TEN = "net 7:0-1,0-2,0-3,0-4,0-5,0-6,1-2,1-3,1-4,1-5";
    private static final String FULL_OF_5 = "net 5:0-1,0-2,0-3,0-4,1-2,1-3,1-4,2-3,2-4,3-4;";
    private static final String BOWTIE = "net 5:0-1,0-2,1-2,0-3,0-4,3-4;";
    private static final String THREE_SAILS = "net 7:0-1,0-2,1-2,0-3,0-4,3-4,0-5,0-6,5-6;";
    private static String where = "";

    public static void main(String[] args) {
        where = "Terms I";
        points();
        lines();
        labelBounds();
        text();
        tokens();
        orderOfFaults();
        faults();
        shapes();
        where = "Terms II";
        graceful();
        alpha();
        harmonious();
        odd();
        even();
        reasons();
        completions();
        barredGraceful();
        barredHarmonious();
        barredOddAndEven();
        where = "Terms III";
        turned();
        mirrored();
        graft();
        families();
        where = "Terms IV";
        acts();
        latestTen();
        Sentences.finish("Terms I", "Terms II", "Terms III", "Terms IV");
    }

    private static void says(String words) {
        Sentences.says(where, words);
    }

    private static void due(int got, int want) {
        Sentences.due(got, want);
    }

    private static FairLabels with(String text) {
        return Sentences.with(text);
    }

    private static FairLabels good(String text, int lines) {
        return Sentences.good(text, lines);
    }

    private static void faulty(String text, int number, int place) {
        Sentences.faulty(text, number, place);
    }

    private static void points() {
        says("NET: POINTS 0 .. N less 1 (N 1 .. 7),");
        for (int n = 1; n <= 7; n++) {
            FairLabels x = good("net " + n + ";", 0);
            due(x.look(0, 0), n);
            due(x.label(0, 0), -1);
            due(x.label(0, n - 1), -1);
            due(x.label(0, n), -2);
            due(x.label(0, -1), -2);
        }
        faulty("net 0;", 2, 4);
        faulty("net 8;", 2, 4);
        good("net 7:5-6;labels 6=1;", 1);
        faulty("net 7:5-7;", 2, 8);
        faulty("net 6:5-6;", 2, 8);
        faulty("net 6;labels 6=1;", 2, 13);
    }

    private static void lines() {
        says("LINES between two unlike ones (10 at most, each two once), numbered by the lesser POINT, then the greater one.");
        due(good("net 2:0-1;", 1).adds(0, 1, 1), -2);
        faulty("net 2:1-1;", 2, 8);
        FairLabels x = good(TEN.substring(0, TEN.length() - 4) + ";", 9);
        due(x.adds(0, 5, 1), 10);
        due(x.adds(0, 6, 1), -5);
        due(x.look(0, 1), 10);
        good(TEN + ";", 10);
        faulty(TEN + ",1-6;", 4, 46);
        faulty("net 3:0-1,0-1;", 3, 12);
        faulty("net 3:0-1,1-0;", 3, 12);
        due(good("net 3:0-1,1-2;", 2).adds(0, 2, 1), -5);
        due(good("net 3:0-1,1-2;", 2).adds(0, 1, 2), -5);
        x = good("net 5:4-3,3-0,4-1,2-0,1-0;", 5);
        Sentences.lines(x, 0, "0-1,0-2,0-3,1-4,3-4");
        due(x.adds(0, 3, 2), 6);
        Sentences.lines(x, 0, "0-1,0-2,0-3,1-4,2-3,3-4");
        due(x.adds(0, 4, 0), 7);
        Sentences.lines(x, 0, "0-1,0-2,0-3,0-4,1-4,2-3,3-4");
        due(x.cuts(0, 0, 1), 6);
        Sentences.lines(x, 0, "0-2,0-3,0-4,1-4,2-3,3-4");
        due(x.cuts(0, 4, 3), 5);
        due(x.adds(0, 1, 0), 6);
        Sentences.lines(x, 0, "0-1,0-2,0-3,0-4,1-4,2-3");
    }

    private static void labelBounds() {
        says("LABELS of POINTS: 0 .. 99, or none.");
        FairLabels x = good("net 3;labels 0=0,1=99;", 0);
        due(x.label(0, 0), 0);
        due(x.label(0, 1), 99);
        due(x.label(0, 2), -1);
        faulty("net 3;labels 0=100;", 2, 15);
        due(x.sets(0, 2, 99), -1);
        due(x.sets(0, 2, 100), -2);
        due(x.sets(0, 2, 0), 99);
        due(x.sets(0, 2, -1), 0);
        due(x.sets(0, 2, -2), -2);
        due(x.label(0, 2), -1);
    }

    private static void text() {
        says("TEXT: net N [: LINE {, LINE}] ; {labels P = L {, P = L} ;}. LINE: A - B.");
        good("net 3;", 0);
        good("net 3:0-1;", 1);
        good("net 3:0-1,1-2;", 2);
        Sentences.labels(good("net 3;labels 1=4;", 0), 0, "-,4,-");
        Sentences.labels(good("net 3:0-1;labels 1=4,0=5;", 1), 0, "5,4,-");
        Sentences.labels(good("net 3:0-1;labels 1=4;labels 2=6;labels 0=5;", 1), 0, "5,4,6");
        Sentences.labels(good("net 7;labels 0=1,1=2,2=3,3=4,4=5,5=6,6=7;", 0), 0, "1,2,3,4,5,6,7");
        FairLabels x = good("net 7;labels 0=1;labels 1=2;labels 2=3;labels 3=4;labels 4=5;labels 5=6;labels 6=7;", 0);
        Sentences.labels(x, 0, "1,2,3,4,5,6,7");
        faulty("", 1, 0);
        faulty("net 3", 1, 5);
        faulty("net;", 1, 3);
        faulty("net 3:;", 1, 6);
        faulty("net 3:0-1", 1, 9);
        faulty("net 3:0-1,;", 1, 10);
        faulty("net 3,0-1;", 1, 5);
        faulty("net 3:0-1:1-2;", 1, 9);
        faulty("net 3:0-1 1-2;", 1, 10);
        faulty("net 3:0-1;labels;", 1, 16);
        faulty("net 3;labels 0=1", 1, 16);
        faulty("net 3;labels 0=1,;", 1, 17);
        faulty("net 3;labels 0=1,labels 1=1;", 1, 17);
        faulty("net 3;0=1;", 1, 6);
        faulty("net 3;;", 1, 6);
        faulty("net 3;net 3;", 1, 6);
        faulty("net 3;labels 0=1;;", 1, 17);
        faulty("labels 0=1;", 1, 0);
        faulty(";", 1, 0);
        faulty(":0-1;", 1, 0);
        faulty("3:0-1;", 1, 0);
        faulty("net 3;labels 0;", 1, 14);
        faulty("net 3;labels 0,1=2;", 1, 14);
        faulty("net 3;labels 0=;", 1, 15);
        faulty("net 3;labels =1;", 1, 13);
        faulty("net 3:0;", 1, 7);
        faulty("net 3:0,1-2;", 1, 7);
        faulty("net 3:-1;", 1, 6);
        faulty("net 3labels 0=1;", 1, 5);
    }

    private static void tokens() {
        says("TOKENS, blanks (32, 10) aside, the longest: words (a .. z), numbers (digits), else single bytes.");
        good("net3:0-1;labels0=1;", 1);
        good(" \n net \n 3 : 0 - 1 , 1\n-\n2 ; labels\n0 = 1 , 1 = 2 ; \n ", 2);
        good("\nnet\n3\n;\n", 0);
        faulty("\tnet 3;", 1, 0);
        faulty("net\r3;", 1, 3);
        faulty("net 3" + (char) 11 + ";", 1, 5);
        faulty("net 3" + (char) 0 + ";", 1, 5);
        faulty("net 3;" + (char) 33, 1, 6);
        faulty("net 3;" + (char) 31, 1, 6);
        faulty("net 3;" + (char) 9, 1, 6);
        // blanks part tokens
        faulty("ne t 3;", 1, 0);
        faulty("net 3;la bels 0=1;", 1, 6);
        faulty("net 3;labels 0=1 2;", 1, 17);
        // a word is one of the text's with all of its letters
        for (String word : new String[] {"met", "nat", "nes", "ne", "et", "net" + 'a', "a"}) {
            faulty(word + " 3;", 1, 0);
        }
        for (String word : new String[] {"mabels", "lbbels", "lacels", "labals", "labems", "labelt", "label", "abels"}) {
            faulty("net 3;" + word + " 0=1;", 1, 6);
        }
        // the longest word, the longest number
        faulty("netlabels 3;", 1, 0);
        faulty("neta;", 1, 0);
        faulty("netz;", 1, 0);
        faulty("net 3;labelsz 0=1;", 1, 6);
        faulty("net 12;", 2, 4);
        Sentences.labels(good("net 03;labels 02=099,1=0000000000000000000000000000000000007;", 0), 0, "-,7,99");
        faulty("net 4294967297;", 2, 4);
        faulty("net 2;labels 0=18446744073709551617;", 2, 15);
        faulty("net 2;labels 1=2147483648;", 2, 15);
        // the bytes on both sides of a .. z and of the digits
        faulty("net" + (char) ('a' - 1) + "3;", 1, 3);
        faulty("net" + (char) ('z' + 1) + "3;", 1, 3);
        faulty("net" + (char) ('0' - 1) + "3;", 1, 3);
        faulty("net 3" + (char) ('0' - 1) + ";", 1, 5);
        faulty("net" + (char) ('9' + 1) + "3;", 1, 3);
        faulty("NET 3;", 1, 0);
        faulty("nEt 3;", 1, 0);
        Sentences.labels(good("net 2;labels 0=90,1=89;", 0), 0, "90,89");
        faulty("net" + (char) 128 + "3;", 1, 3);
        faulty((char) 255 + "net 3;", 1, 0);
        // single bytes: two signs are two tokens
        faulty("net 3;labels 0==1;", 1, 15);
        faulty("net 3:0--1;", 1, 8);
    }

    private static void orderOfFaults() {
        says("FAULTS, of several the one whose first byte (a TOKEN's; the end's) is least, of one byte the least number:");
        faulty("nat 9:8-8", 1, 0);
        faulty("net 9:8-8", 2, 4);
        faulty("net 3:3-3", 2, 6);
        faulty("net 3:2-2", 2, 8);
        faulty("net 3:0-1,1-0", 3, 12);
        faulty("net 3:0-1,1-x", 1, 12);
        faulty("net 3:0-1,3-x", 2, 10);
        faulty("net 3;labels 3=100", 2, 13);
        faulty("net 3;labels 2=100", 2, 15);
        faulty("net 3;labels 2=1,2=100", 3, 17);
        faulty("net 3;labels 2=1,2", 3, 17);
        faulty(TEN + ",1-1", 4, 46);
        faulty(TEN + ",0-1", 4, 46);
        // the first byte of a token, not its last
        faulty("net 123456;", 2, 4);
        faulty("net 3;labelled 0=1;", 1, 6);
        // of one byte the least number
        faulty(TEN + ",7-1;", 2, 46);
        faulty(TEN + ",x-1;", 1, 46);
        faulty(TEN + ",", 1, 46);
        // the end's byte
        faulty("net", 1, 3);
        faulty("net 3:0-1;labels", 1, 16);
        faulty("net 3:0-1;labels 2=", 1, 19);
        faulty("net 3;labels 2=5 \n", 1, 18);
        faulty(" \n", 1, 2);
    }

    private static void faults() {
        says("1 a TOKEN that is none, or can't stand there.");
        faulty("#", 1, 0);
        faulty("net 3#;", 1, 5);
        faulty("net 3;#", 1, 6);
        faulty("3;", 1, 0);
        faulty("net -1;", 1, 4);
        faulty("net x;", 1, 4);
        faulty("net 3-", 1, 5);
        faulty("net 3:x-1;", 1, 6);
        faulty("net 3:0=1;", 1, 7);
        faulty("net 3:0-;", 1, 8);
        faulty("net 3:0-1-2;", 1, 9);
        faulty("net 3;labels x=1;", 1, 13);
        faulty("net 3;labels 0-1;", 1, 14);
        faulty("net 3;labels 0=x;", 1, 15);
        faulty("net 3;labels 0=-1;", 1, 15);
        faulty("net 3;labels 0=1=2;", 1, 16);
        faulty("net 3;labels 0=1:", 1, 16);
        says("2 a number out of its bounds (N; a POINT; L; at B, if B is A).");
        faulty("net 0;", 2, 4);
        good("net 1;", 0);
        good("net 7;", 0);
        faulty("net 8;", 2, 4);
        faulty("net 1:1-0;", 2, 6);
        faulty("net 1:0-0;", 2, 8);
        faulty("net 1:0-1;", 2, 8);
        good("net 4:3-0;", 1);
        faulty("net 4:4-0;", 2, 6);
        good("net 4:0-3;", 1);
        faulty("net 4:0-4;", 2, 8);
        faulty("net 4:3 - 03;", 2, 10);
        good("net 4;labels 3=0;", 0);
        faulty("net 4;labels 4=0;", 2, 13);
        good("net 4;labels 3=99;", 0);
        faulty("net 4;labels 3=100;", 2, 15);
        says("3 a LINE told again, at its B; a POINT with a LABEL again, at it.");
        faulty("net 4:2-3,0-1,2 - 3;", 3, 18);
        faulty("net 4:2-3,0-1,3 -  2;", 3, 19);
        faulty("net 4;labels 2=3, 2=3;", 3, 18);
        faulty("net 4;labels 2=3,1=3,2=4;", 3, 21);
        faulty("net 4;labels 2=0;labels 2=0;", 3, 24);
        faulty("net 7;labels 0=1,1=2,2=3,3=4,4=5,5=6,6=7,0=8;", 3, 41);
        good("net 4;labels 2=3,3=3;", 0);
        says("4 an 11th LINE, at its A.");
        good(TEN + ";", 10);
        faulty(TEN + ",1-6;", 4, 46);
        faulty(TEN + ",\n 6-1;", 4, 48);
        faulty(TEN + ",1;", 4, 46);
    }

    private static void look(String text, int what, int want) {
        due(with(text).look(0, what), want);
    }

    private static void shapes() {
        says("TREE: all POINTS hang together by LINES, and there are one fewer LINES.");
        look("net 1;", 3, 1);
        look("net 2;", 3, 0);
        look("net 2:0-1;", 3, 1);
        look("net 3:0-1;", 3, 0);
        look("net 3:0-2,1-2;", 3, 1);
        look("net 3:0-1,1-2,0-2;", 3, 0);
        look("net 4:0-1,1-2,0-2;", 3, 0);
        look("net 7:0-6,6-1,1-5,5-2,2-4,4-3;", 3, 1);
        look("net 7:0-6,6-1,1-5,5-2,2-4,4-3,0-1;", 3, 0);
        look("net 7:0-1,1-2,2-3,3-4,4-5,0-5;", 3, 0);
        says("TWO-SIDED: POINTS can be put on two sides so that each LINE goes across.");
        int[] twoSided = {0, 0, 0, 0, 1, 0, 1, 0};
        for (int n = 3; n <= 7; n++) {
            FairLabels x = new FairLabels();
            x.family(2, n, 0, 0);
            due(x.look(0, 4), twoSided[n]);
            x.cuts(0, 0, n - 1);
            due(x.look(0, 4), 1);
        }
        look("net 1;", 4, 1);
        look("net 7;", 4, 1);
        look("net 7:0-1,2-3,2-4,3-4;", 4, 0);
        look("net 6:0-2,0-4,2-4;", 4, 0);
        look("net 7:1-3,1-5,3-5;", 4, 0);
        look("net 7:2-4,2-6,4-6;", 4, 0);
        look("net 7:0-1,0-2,0-3,1-4,2-5,3-6,4-5;", 4, 0);
        look("net 7:0-1,0-2,0-3,1-4,2-5,3-6,1-5,3-4;", 4, 1);
        look("net 7:0-1,0-2,1-2,3-4;", 4, 0);
        look("net 6:0-1,2-3,4-5;", 4, 1);
        look("net 7:0-6,6-1,1-5,5-2,2-4,4-3,0-3;", 4, 0);
        look("net 7:0-6,6-1,1-5,5-2,2-4,4-3,0-4;", 4, 1);
        says("PARTS: as LINES hang POINTS together.");
        String path = "net 7:0-1,1-2,2-3,3-4,4-5,5-6";
        for (int lines = 1; lines <= 6; lines++) {
            look(path.substring(0, 5 + 4 * lines) + ";", 5, 7 - lines);
        }
        look("net 7;", 5, 7);
        look("net 1;", 5, 1);
        look("net 7:0-1,1-2,0-2;", 5, 5);
        look("net 7:0-6,1-5,2-4;", 5, 4);
        look("net 7:0-6,6-1,1-5,5-2,2-4,4-3;", 5, 1);
    }

    /** Why the labels of a text are none of a kind, 0 if they are; is() says the same. */
    private static void why(String text, int kind, int want) {
        FairLabels x = with(text);
        due(x.why(0, kind), want);
        due(x.is(0, kind), want == 0 ? 1 : 0);
    }

    private static void graceful() {
        says("KINDS of LABELS of all POINTS, E being how many LINES:");
        for (int kind = 0; kind < 5; kind++) {
            FairLabels x = with("net 3:0-1,0-2,1-2;labels 0=0,1=1;");
            due(x.is(0, kind), 0);
            due(x.why(0, kind), 1);
        }
        why("net 3:0-1,0-2,1-2;labels 0=0,1=1,2=3;", 0, 0);
        why("net 3:0-1,0-2;labels 0=0,1=1,2=3;", 0, 2);
        says("0 GRACEFUL: 0 .. E, all unlike; differences (without sign) of LINES all unlike.");
        why("net 1;labels 0=0;", 0, 0);
        why("net 1;labels 0=1;", 0, 2);
        why("net 2:0-1;labels 0=0,1=1;", 0, 0);
        why("net 2:0-1;labels 0=1,1=0;", 0, 0);
        why("net 2:0-1;labels 0=0,1=2;", 0, 2);
        why("net 2:0-1;labels 0=2,1=1;", 0, 2);
        why("net 2:0-1;labels 0=1,1=1;", 0, 3);
        why("net 3:0-1,1-2;labels 0=0,1=2,2=1;", 0, 0);
        why("net 3:0-1,1-2;labels 0=0,1=2,2=0;", 0, 3);
        why("net 3:0-1,1-2;labels 0=0,1=1,2=2;", 0, 4);
        why("net 3:0-1,1-2;labels 0=2,1=1,2=0;", 0, 4);
        // a point without lines has its label, too
        why("net 4:0-1,0-2,1-2;labels 0=0,1=1,2=3,3=2;", 0, 0);
        why("net 4:0-1,0-2,1-2;labels 0=0,1=1,2=3,3=3;", 0, 3);
        why("net 4:0-1,0-2,1-2;labels 0=0,1=1,2=3,3=4;", 0, 2);
        // ten lines: label 10, difference 10
        why("net 7:0-2,0-3,0-4,0-5,0-6,1-2,1-3,1-4,1-5,1-6;labels 0=0,1=1,2=2,3=4,4=6,5=8,6=10;", 0, 0);
        why("net 7:0-2,0-3,0-4,0-5,0-6,1-2,1-3,1-4,1-5,1-6;labels 0=0,1=1,2=2,3=4,4=6,5=8,6=11;", 0, 2);
    }

    private static void alpha() {
        says("1 ALPHA: GRACEFUL, and there is some k so that each LINE has one LABEL that is k or less, one above.");
        why("net 1;labels 0=0;", 1, 0);
        why("net 1;labels 0=1;", 1, 2);
        why("net 2:0-1;labels 0=0,1=1;", 1, 0);
        why("net 3:0-1,1-2;labels 0=0,1=2,2=1;", 1, 0);
        why("net 3:0-1,1-2;labels 0=0,1=1,2=2;", 1, 4);
        why("net 3:0-1,0-2,1-2;labels 0=0,1=1,2=3;", 1, 5);
        // k is 0 and k is E less 1
        why("net 4:0-1,0-2,0-3;labels 0=0,1=1,2=2,3=3;", 1, 0);
        why("net 4:0-1,0-2,0-3;labels 0=3,1=0,2=1,3=2;", 1, 0);
        // 2 is the lesser one of 2, 4 and the greater one of 1, 2
        why("net 5:0-1,1-2,2-3,3-4;labels 0=1,1=2,2=4,3=0,4=3;", 0, 0);
        why("net 5:0-1,1-2,2-3,3-4;labels 0=1,1=2,2=4,3=0,4=3;", 1, 5);
        why("net 5:0-1,1-2,2-3,3-4;labels 0=0,1=4,2=1,3=3,4=2;", 1, 0);
    }

    private static void harmonious() {
        says("2 HARMONIOUS: 0 .. E less 1, all unlike (of a TREE: but for one, which is there twice); "
            + "sums of LINES modulo E all unlike.");
        why("net 3:0-1,0-2,1-2;labels 0=0,1=1,2=2;", 2, 0);
        why("net 3:0-1,0-2,1-2;labels 0=0,1=1,2=3;", 2, 2);
        why("net 3:0-1,0-2,1-2;labels 0=0,1=1,2=1;", 2, 3);
        why("net 1;labels 0=0;", 2, 2);
        // of a tree, one label twice; two labels twice; one three times
        why("net 2:0-1;labels 0=0,1=0;", 2, 0);
        why("net 2:0-1;labels 0=0,1=1;", 2, 2);
        why("net 3:0-1,1-2;labels 0=0,1=0,2=1;", 2, 0);
        why("net 3:0-1,1-2;labels 0=0,1=1,2=0;", 2, 4);
        why("net 3:0-1,1-2;labels 0=0,1=1,2=2;", 2, 2);
        why("net 4:0-1,1-2,2-3;labels 0=1,1=0,2=0,3=2;", 2, 0);
        why("net 4:0-1,1-2,2-3;labels 0=0,1=0,2=1,3=1;", 2, 3);
        why("net 4:0-1,0-2,0-3;labels 0=0,1=0,2=1,3=2;", 2, 0);
        why("net 4:0-1,0-2,0-3;labels 0=1,1=1,2=1,3=2;", 2, 3);
        // as many points and lines as a tree's, but no tree: all unlike, which is too much for four
        why("net 4:0-1,0-2,1-2;labels 0=0,1=1,2=2,3=0;", 2, 3);
        // 0 and 1 have the sum 1, 2 and 4 the sum 6, which is 1 modulo 5; 2 and 3 have 5, which is 0
        why("net 5:0-1,0-2,0-4,1-4,2-3;labels 0=0,1=1,2=2,3=4,4=3;", 2, 4);
        why("net 5:0-1,0-2,0-4,1-4,2-4;labels 0=0,1=1,2=2,3=4,4=3;", 2, 0);
        why("net 4:0-1,1-2,2-3,0-3;labels 0=0,1=1,2=2,3=3;", 2, 4);
    }

    private static void odd() {
        says("3 ODD: 0 .. 2 E less 1, all unlike; differences all unlike, all odd.");
        why("net 1;labels 0=0;", 3, 2);
        why("net 2:0-1;labels 0=0,1=1;", 3, 0);
        why("net 2:0-1;labels 0=0,1=2;", 3, 2);
        why("net 2:0-1;labels 0=1,1=1;", 3, 3);
        why("net 3:0-1,1-2;labels 0=0,1=3,2=2;", 3, 0);
        why("net 3:0-1,1-2;labels 0=1,1=4,2=3;", 3, 2);
        why("net 3:0-1,1-2;labels 0=0,1=3,2=0;", 3, 3);
        why("net 3:0-1,1-2;labels 0=0,1=1,2=2;", 3, 4);
        why("net 3:0-1,1-2;labels 0=0,1=2,2=1;", 3, 5);
        why("net 4:0-1,1-2;labels 0=0,1=3,2=2,3=1;", 3, 0);
        why("net 4:0-1,1-2;labels 0=0,1=3,2=2,3=2;", 3, 3);
        // a difference 0 comes with like labels, and these are told first
        why("net 3:0-1,1-2;labels 0=3,1=3,2=0;", 3, 3);
        // ten lines: label 19, difference 19
        why("net 7:0-2,0-3,0-4,0-5,0-6,1-2,1-3,1-4,1-5,1-6;labels 0=0,1=2,2=3,3=7,4=11,5=15,6=19;", 3, 0);
        why("net 7:0-2,0-3,0-4,0-5,0-6,1-2,1-3,1-4,1-5,1-6;labels 0=0,1=2,2=3,3=7,4=11,5=15,6=20;", 3, 2);
    }

    private static void even() {
        says("4 EVEN: 0, 1; POINTS with 0 and with 1 are as many, or one more of one; "
            + "LINES with difference 0 and with 1 likewise.");
        why("net 1;labels 0=0;", 4, 0);
        why("net 1;labels 0=1;", 4, 0);
        why("net 1;labels 0=2;", 4, 2);
        why("net 2;labels 0=0,1=1;", 4, 0);
        why("net 2;labels 0=0,1=0;", 4, 5);
        why("net 2;labels 0=1,1=1;", 4, 5);
        why("net 3;labels 0=0,1=1,2=0;", 4, 0);
        why("net 3;labels 0=1,1=1,2=0;", 4, 0);
        why("net 3;labels 0=1,1=1,2=1;", 4, 5);
        why("net 4;labels 0=1,1=1,2=0,3=0;", 4, 0);
        why("net 4;labels 0=1,1=1,2=1,3=0;", 4, 5);
        why("net 4;labels 0=1,1=0,2=0,3=0;", 4, 5);
        why("net 7;labels 0=1,1=0,2=0,3=0,4=1,5=1,6=1;", 4, 0);
        why("net 7;labels 0=1,1=0,2=0,3=0,4=0,5=0,6=1;", 4, 5);
        why("net 2:0-1;labels 0=0,1=1;", 4, 0);
        why("net 4:0-1,1-2;labels 0=0,1=0,2=1,3=1;", 4, 0);
        why("net 4:0-1,2-3;labels 0=0,1=0,2=1,3=1;", 4, 5);
        why("net 4:0-1,2-3;labels 0=0,1=1,2=0,3=1;", 4, 5);
        why("net 4:0-1,1-2,2-3;labels 0=0,1=0,2=1,3=1;", 4, 0);
        why("net 4:0-1,1-2,2-3;labels 0=0,1=1,2=1,3=0;", 4, 0);
        why("net 4:0-1,1-2,2-3;labels 0=0,1=1,2=0,3=1;", 4, 5);
    }

    private static void reasons() {
        says("why(): 5 is: of ALPHA no such k, of ODD a difference that is not odd, of EVEN POINTS or LINES that are not so;");
        why("net 3:0-1,0-2,1-2;labels 0=0,1=1,2=3;", 0, 0);
        why("net 3:0-1,0-2,1-2;labels 0=0,1=1,2=3;", 1, 5);
        why("net 3:0-1,1-2;labels 0=3,1=1,2=0;", 3, 5);
        why("net 3:0-1,1-2;labels 0=3,1=0,2=1;", 3, 0);
        why("net 3;labels 0=0,1=0,2=0;", 4, 5);
        why("net 4:0-1,2-3;labels 0=0,1=1,2=1,3=0;", 4, 5);
        says("like worths: differences (of HARMONIOUS sums modulo E; of EVEN never; LABELS of EVEN are never alike).");
        why("net 3:0-1,1-2;labels 0=2,1=1,2=0;", 0, 4);
        why("net 3:0-1,1-2;labels 0=2,1=1,2=0;", 1, 4);
        why("net 3:0-1,1-2;labels 0=3,1=2,2=1;", 3, 4);
        // sums 1 and 1: differences 1 and 1; sums 0 and 1: differences 0 and 1
        why("net 3:0-1,1-2;labels 0=1,1=0,2=1;", 2, 4);
        why("net 3:0-1,1-2;labels 0=0,1=0,2=1;", 2, 0);
        // like differences, sums unlike: 0, 1, 2 in a ring of three
        why("net 3:0-1,0-2,1-2;labels 0=0,1=1,2=2;", 2, 0);
        why("net 3:0-1,0-2,1-2;labels 0=0,1=1,2=2;", 0, 4);
        why("net 4:0-1,0-2,1-3,2-3;labels 0=0,1=0,2=1,3=1;", 4, 0);
        why("net 4:0-1,0-2,0-3,1-3;labels 0=0,1=1,2=1,3=0;", 4, 5);
    }

    /** All completions in their order, the labels of each as a word of letters from 0, a blank between two. */
    private static String rows(FairLabels x, int kind) {
        StringBuilder all = new StringBuilder();
        int many = x.many(0, kind);
        for (int i = 0; i < many; i++) {
            all.append(i == 0 ? "" : " ");
            for (int p = 0; p < x.look(0, 0); p++) {
                all.append(x.row(0, kind, i, p));
            }
        }
        return all.toString();
    }

    private static void completions() {
        says("COMPLETIONS of a KIND: all LABELS of all POINTS of that KIND, by which POINTS that have LABELS now "
            + "have just these; in order as rows by POINTS, the least first.");
        String path = "net 3:0-1,1-2;";
        Sentences.same(rows(with(path), 0), "021 102 120 201");
        Sentences.same(rows(with(path), 1), "021 102 120 201");
        Sentences.same(rows(with(path), 2), "001 011 100 110");
        Sentences.same(rows(with(path), 3), "032 103 230 301");
        Sentences.same(rows(with(path), 4), "001 011 100 110");
        Sentences.same(rows(with(path + "labels 0=1;"), 0), "102 120");
        Sentences.same(rows(with(path + "labels 2=1;"), 0), "021 201");
        Sentences.same(rows(with(path + "labels 1=1;"), 0), "");
        Sentences.same(rows(with(path + "labels 1=3;"), 3), "032 230");
        Sentences.same(rows(with(path + "labels 2=1;"), 4), "001 011");
        Sentences.same(rows(with(path + "labels 2=1;"), 2), "001 011");
        // all have labels: just these, or none
        Sentences.same(rows(with(path + "labels 0=0,1=2,2=1;"), 0), "021");
        Sentences.same(rows(with(path + "labels 0=0,1=1,2=2;"), 0), "");
        // a label just beyond the bounds of a kind, and the greatest one
        int[] most = {2, 2, 1, 3, 1};
        int[] left = {1, 1, 2, 1, 2};
        for (int kind = 0; kind < 5; kind++) {
            due(with(path + "labels 0=" + most[kind] + ";").many(0, kind), left[kind]);
            due(with(path + "labels 0=" + (most[kind] + 1) + ";").many(0, kind), 0);
            due(with(path + "labels 0=99;").many(0, kind), 0);
        }
        // of labels told, one at the first point alone
        Sentences.same(rows(with(path + "labels 0=1;"), 2), "100 110");
        Sentences.same(rows(with(path + "labels 0=0;"), 2), "001 011");
        Sentences.same(rows(with(path + "labels 0=1;"), 4), "100 110");
        Sentences.same(rows(with(path + "labels 0=1;"), 3), "103");
        // points without lines have labels, too
        Sentences.same(rows(with("net 4:0-1,0-2,1-2;labels 0=0,1=1;"), 0), "0132");
        Sentences.same(rows(with("net 4:1-2,1-3,2-3;labels 1=0,2=1;"), 0), "2013");
        Sentences.same(rows(with("net 4:0-1,1-2;"), 3), "0321 1032 2301 3012");
        Sentences.same(rows(with("net 5:0-1,1-2,2-3;labels 0=0,1=5,2=2,3=3;"), 3), "05231 05234");
        Sentences.same(rows(with("net 5:1-2,2-3,3-4;labels 1=0,2=5,3=2,4=3;"), 3), "10523 40523");
        Sentences.same(rows(with("net 3:1-2;labels 1=0;"), 4), "001 100 101");
        // labels of two digits, by number and not as texts
        FairLabels x = with("net 7:0-2,0-3,0-4,0-5,0-6,1-2,1-3,1-4,1-5,1-6;labels 0=0,1=1,2=2,3=4,4=6;");
        due(x.many(0, 0), 2);
        due(x.row(0, 0, 0, 5), 8);
        due(x.row(0, 0, 0, 6), 10);
        due(x.row(0, 0, 1, 5), 10);
        due(x.row(0, 0, 1, 6), 8);
    }

    private static void bars(String text, int kind, int want) {
        FairLabels x = with(text);
        due(x.bars(0, kind), want);
        if (want == 1) {
            due(x.many(0, kind), 0);
        }
    }

    private static String ring(int n) {
        StringBuilder b = new StringBuilder("net ").append(n).append(":0-").append(n - 1);
        for (int p = 1; p < n; p++) {
            b.append(',').append(p - 1).append('-').append(p);
        }
        return b.append(';').toString();
    }

    private static void barredGraceful() {
        says("BARRED: GRACEFUL, ALPHA: more than E and 1 POINTS;");
        for (int kind = 0; kind < 2; kind++) {
            bars("net 1;", kind, 0);
            bars("net 2;", kind, 1);
            bars("net 2:0-1;", kind, 0);
            bars("net 3:0-1;", kind, 1);
            bars("net 5:0-1,0-2,1-3,2-3;", kind, 0);
            bars("net 6:0-1,0-2,1-3,2-3;", kind, 1);
            bars("net 7:0-1,0-2,0-3,0-4,0-5,0-6;", kind, 0);
        }
        says("or all POINTS have an even number of LINES and E modulo 4 is 1 or 2;");
        int[] ofRing = {0, 0, 0, 0, 0, 1, 1, 0};
        for (int n = 3; n <= 7; n++) {
            bars(ring(n), 0, ofRing[n]);
        }
        bars(ring(4), 1, 0);
        bars(ring(5), 1, 1);
        bars(ring(6), 1, 1);
        bars(BOWTIE, 0, 1);
        bars(THREE_SAILS, 0, 1);
        bars(FULL_OF_5, 0, 1);
        bars("net 7:0-1,1-2,2-3,0-3,3-4,4-5,5-6,3-6;", 0, 0);
        // points with an odd number of lines: E modulo 4 does not matter
        bars("net 2:0-1;", 0, 0);
        bars("net 3:0-1,1-2;", 0, 0);
        bars("net 6:0-1,1-2,2-3,3-4,4-5;", 0, 0);
        bars("net 4:0-1,0-2,0-3,1-2,1-3;", 0, 0);
        bars("net 4:0-1,0-2,0-3,1-2,1-3,2-3;", 0, 0);
        // a point without lines has an even number of them
        bars("net 4:0-1,0-2,1-2;", 0, 0);
        bars("net 6:0-1,1-2,2-3,3-4,0-4;", 0, 1);
        says("ALPHA: not TWO-SIDED, too.");
        bars(ring(3), 0, 0);
        bars(ring(3), 1, 1);
        bars(ring(7), 0, 0);
        bars(ring(7), 1, 1);
        bars(ring(4), 1, 0);
        bars("net 4:0-1,0-2,1-2,2-3;", 1, 1);
        bars("net 4:0-1,0-2,2-3;", 1, 0);
    }

    private static void barredHarmonious() {
        says("HARMONIOUS: more than E POINTS, and no TREE;");
        bars("net 4:0-1,0-2,1-2;", 2, 1);
        bars("net 4:0-1,0-2,2-3;", 2, 0);
        bars("net 3:0-1,0-2,1-2;", 2, 0);
        bars("net 4:0-1,0-2,1-2,2-3;", 2, 0);
        bars("net 5:0-1,0-2,1-2,2-3;", 2, 1);
        bars("net 4:0-1,2-3;", 2, 1);
        bars("net 7:0-1,1-2,2-3,3-4,4-5,5-6;", 2, 0);
        says("no LINES;");
        bars("net 1;", 2, 1);
        bars("net 2;", 2, 1);
        bars("net 2:0-1;", 2, 0);
        says("E is even, all POINTS have an even number of LINES, and with the greatest a by which 2 to the a "
            + "goes into all these, 2 to the (a and 1) does not go into E.");
        bars(ring(3), 2, 0);
        bars(ring(4), 2, 0);
        bars(ring(5), 2, 0);
        bars(ring(6), 2, 1);
        bars(ring(7), 2, 0);
        bars(BOWTIE, 2, 1);
        bars(THREE_SAILS, 2, 0);
        bars(FULL_OF_5, 2, 1);
        bars("net 6:0-2,0-3,0-4,0-5,1-2,1-3,1-4,1-5;", 2, 0);
        bars("net 7:0-2,0-3,0-4,0-5,1-2,1-3,1-4,1-5;", 2, 0);
        bars("net 7:0-1,1-2,2-3,0-3,3-4,4-5,5-6,3-6;", 2, 0);
        // a point without lines: whatever power of two goes into 0
        bars("net 6:0-1,0-2,1-2,0-3,0-4,3-4;", 2, 1);
        bars("net 6:0-1,0-2,0-3,0-4,1-2,1-3,1-4,2-3,2-4,3-4;", 2, 1);
        // some point has an odd number of lines
        bars("net 4:0-1,0-2,0-3,1-2,1-3,2-3;", 2, 0);
        bars("net 3:0-1,1-2;", 2, 0);
        bars("net 6:0-1,1-2,2-3,3-4,0-4,0-5;", 2, 0);
    }

    private static void barredOddAndEven() {
        says("ODD: not TWO-SIDED, more than 2 E POINTS.");
        bars(ring(3), 3, 1);
        bars(ring(4), 3, 0);
        bars(ring(5), 3, 1);
        bars(ring(6), 3, 0);
        bars("net 1;", 3, 1);
        bars("net 2:0-1;", 3, 0);
        bars("net 3:0-1;", 3, 1);
        bars("net 4:0-1,2-3;", 3, 0);
        bars("net 5:0-1,2-3;", 3, 1);
        bars("net 6:0-1,2-3,4-5;", 3, 0);
        bars("net 7:0-1,2-3,4-5;", 3, 1);
        bars("net 7:0-1,1-2,0-2;", 3, 1);
        says("EVEN: all POINTS have an even number of LINES, and E modulo 4 is 2.");
        int[] ofRing = {0, 0, 0, 0, 0, 0, 1, 0};
        for (int n = 3; n <= 7; n++) {
            bars(ring(n), 4, ofRing[n]);
        }
        bars(BOWTIE, 4, 1);
        bars(FULL_OF_5, 4, 1);
        bars(THREE_SAILS, 4, 0);
        bars("net 7:0-1,0-2,1-2,0-3,0-4,3-4;", 4, 1);
        bars("net 1;", 4, 0);
        bars("net 7;", 4, 0);
        bars("net 3:0-1,1-2;", 4, 0);
        bars("net 4:0-1,2-3;", 4, 0);
        bars("net 4:0-1,0-2,0-3,1-2,1-3,2-3;", 4, 0);
    }

    private static void unlike(String text, int kind, int many, int want) {
        FairLabels x = with(text);
        due(x.many(0, kind), many);
        due(x.unlike(0, kind), want);
    }

    private static void turned() {
        says("TURNED: of GRACEFUL, ALPHA E less each LABEL;");
        String path = "net 3:0-1,1-2;";
        for (int kind = 0; kind < 2; kind++) {
            unlike(path, kind, 4, 2);
            unlike(path + "labels 0=1;", kind, 2, 1);
            unlike(path + "labels 1=2;", kind, 2, 2);
            unlike(path + "labels 0=1,1=0;", kind, 1, 1);
            unlike("net 1;", kind, 1, 1);
            unlike("net 1;labels 0=0;", kind, 1, 1);
            unlike("net 1;labels 0=1;", kind, 0, 0);
            unlike("net 2:0-1;", kind, 2, 1);
        }
        says("of ODD 2 E less 1 less each;");
        unlike(path, 3, 4, 2);
        unlike(path + "labels 1=0;", 3, 2, 2);
        unlike("net 2:0-1;", 3, 2, 1);
        unlike("net 2:0-1;labels 0=1;", 3, 1, 1);
        says("of EVEN 1 less each.");
        unlike(path, 4, 4, 2);
        unlike(path + "labels 0=0;", 4, 2, 2);
        unlike("net 1;", 4, 2, 1);
        unlike("net 1;labels 0=1;", 4, 1, 1);
    }

    private static void mirrored(String text, int k, String want) {
        FairLabels x = with(text);
        due(x.edge(0), k);
        due(x.mirrors(0), k);
        Sentences.labels(x, 0, want);
        due(x.is(0, 1), 1);
        due(x.edge(0), k);
    }

    private static void mirrored() {
        says("MIRRORED: by its EDGE k: a LABEL l that is k or less becomes k less l, another one E and k and 1 less l.");
        mirrored("net 2:0-1;labels 0=0,1=1;", 0, "0,1");
        mirrored("net 4:0-1,0-2,0-3;labels 0=0,1=1,2=2,3=3;", 0, "0,3,2,1");
        mirrored("net 4:0-1,0-2,0-3;labels 0=3,1=0,2=1,3=2;", 2, "3,2,1,0");
        mirrored("net 4:0-1,1-2,2-3;labels 0=0,1=3,2=1,3=2;", 1, "1,2,0,3");
        mirrored("net 5:0-1,1-2,2-3,3-4;labels 0=0,1=4,2=1,3=3,4=2;", 2, "2,3,1,4,0");
        mirrored("net 4:0-1,1-2,2-3,0-3;labels 0=0,1=4,2=1,3=2;", 1, "1,2,0,4");
        // a point without lines, just above k and at k
        mirrored("net 5:0-1,1-2,2-3,0-3;labels 0=0,1=4,2=1,3=2,4=3;", 1, "1,2,0,4,3");
        mirrored("net 5:0-1,1-2,2-3,0-3;labels 0=0,1=4,2=2,3=3,4=1;", 2, "2,3,0,4,1");
    }

    private static void grafted(String one, String two, String lines, String labels) {
        FairLabels x = with(one);
        Sentences.tells(x, 1, two);
        int points = x.look(0, 0) + x.look(1, 0) - 1;
        due(x.grafts(0, 1, 2), points);
        Sentences.lines(x, 2, lines);
        Sentences.labels(x, 2, labels);
        due(x.is(2, 0), 1);
    }

    private static void graft() {
        String path = "net 4:0-1,1-2,2-3;labels 0=0,1=3,2=1,3=2;";
        says("GRAFT: LABELS of the one NET above its EDGE k become more by the other one's LINES;");
        grafted(path, "net 3:0-1,1-2;labels 0=0,1=2,2=1;", "0-1,1-2,2-3,2-4,4-5", "0,5,1,4,3,2");
        // EDGE 0: all but 0 are above it; EDGE E less 1: E alone is
        grafted("net 3:0-1,0-2;labels 0=0,1=1,2=2;", "net 2:0-1;labels 0=0,1=1;", "0-1,0-2,0-3", "0,2,3,1");
        grafted("net 3:0-1,0-2;labels 0=2,1=0,2=1;", "net 2:0-1;labels 0=0,1=1;", "0-1,0-2,2-3", "3,0,1,2");
        // without lines there, none is more
        grafted(path, "net 1;labels 0=0;", "0-1,1-2,2-3", "0,3,1,2");
        says("those of the other one become more by k; its POINT with 0 and the one's with k are one.");
        grafted("net 3:0-1,0-2;labels 0=0,1=1,2=2;", "net 3:0-1,0-2,1-2;labels 0=3,1=0,2=1;",
            "0-1,0-2,0-3,0-4,3-4", "0,4,5,3,1");
        grafted(path, "net 3:0-1,0-2,1-2;labels 0=1,1=3,2=0;", "0-1,1-2,2-3,2-4,2-5,4-5", "0,6,1,5,2,4");
        says("POINTS: those of the one, then those of the other one without that one, in order.");
        grafted(path, "net 3:0-1,1-2;labels 0=2,1=0,2=1;", "0-1,1-2,2-3,2-4,2-5", "0,5,1,4,3,2");
        grafted(path, "net 4:0-1,0-2,0-3;labels 0=3,1=2,2=1,3=0;", "0-1,1-2,2-3,2-4,4-5,4-6", "0,6,1,5,4,3,2");
    }

    private static void made(int what, int n, int m, String lines, String labels) {
        FairLabels x = new FairLabels();
        due(x.family(what, n, m, 1), lines.split("-", -1).length - 1);
        Sentences.lines(x, 1, lines);
        Sentences.labels(x, 1, labels);
    }

    private static void noSuch(int what, int n, int m) {
        Sentences.stays(() -> with("net 2:0-1;"), x -> x.family(what, n, m, 0), -2);
    }

    private static void families() {
        says("FAMILIES, with LABELS: 0 path of n POINTS (2 .. 7), each with the next one: 0, E, 1, E less 1, .. .");
        noSuch(-1, 3, 1);
        noSuch(0, 1, 1);
        made(0, 2, 0, "0-1", "0,1");
        made(0, 3, 0, "0-1,1-2", "0,2,1");
        made(0, 6, 0, "0-1,1-2,2-3,3-4,4-5", "0,5,1,4,2,3");
        made(0, 7, 0, "0-1,1-2,2-3,3-4,4-5,5-6", "0,6,1,5,2,4,3");
        noSuch(0, 8, 1);
        says("1 star: POINT 0 with n others (1 .. 6): 0, 1, .. n.");
        noSuch(1, 0, 1);
        made(1, 1, 0, "0-1", "0,1");
        made(1, 6, 0, "0-1,0-2,0-3,0-4,0-5,0-6", "0,1,2,3,4,5,6");
        noSuch(1, 7, 1);
        says("2 ring of n (3 .. 7), the last with the first, too: 3: 0, 1, 3; 4: 0, 4, 1, 2; "
            + "7: 0, 7, 1, 6, 2, 4, 3; 5, 6: none.");
        noSuch(2, 2, 1);
        made(2, 3, 0, "0-1,0-2,1-2", "0,1,3");
        made(2, 4, 0, "0-1,0-3,1-2,2-3", "0,4,1,2");
        made(2, 5, 0, "0-1,0-4,1-2,2-3,3-4", "-,-,-,-,-");
        made(2, 6, 0, "0-1,0-5,1-2,2-3,3-4,4-5", "-,-,-,-,-,-");
        made(2, 7, 0, "0-1,0-6,1-2,2-3,3-4,4-5,5-6", "0,7,1,6,2,4,3");
        noSuch(2, 8, 1);
        says("3 full: all twos of n POINTS (2 .. 5): 0, 1; 0, 1, 3; 0, 1, 4, 6; none of 5.");
        noSuch(3, 1, 1);
        made(3, 2, 0, "0-1", "0,1");
        made(3, 3, 0, "0-1,0-2,1-2", "0,1,3");
        made(3, 4, 0, "0-1,0-2,0-3,1-2,1-3,2-3", "0,1,4,6");
        made(3, 5, 0, "0-1,0-2,0-3,0-4,1-2,1-3,1-4,2-3,2-4,3-4", "-,-,-,-,-");
        noSuch(3, 6, 1);
        says("4 two sides: n POINTS (1 and more), each with m others (1 and more; 7 POINTS, 10 LINES at most): "
            + "0 .. n less 1, then n, 2 n, .. m n.");
        noSuch(4, 0, 1);
        noSuch(4, 1, 0);
        noSuch(4, 0, 0);
        made(4, 1, 1, "0-1", "0,1");
        made(4, 1, 6, "0-1,0-2,0-3,0-4,0-5,0-6", "0,1,2,3,4,5,6");
        noSuch(4, 1, 7);
        made(4, 6, 1, "0-6,1-6,2-6,3-6,4-6,5-6", "0,1,2,3,4,5,6");
        noSuch(4, 7, 1);
        made(4, 2, 5, "0-2,0-3,0-4,0-5,0-6,1-2,1-3,1-4,1-5,1-6", "0,1,2,4,6,8,10");
        made(4, 5, 2, "0-5,0-6,1-5,1-6,2-5,2-6,3-5,3-6,4-5,4-6", "0,1,2,3,4,5,10");
        made(4, 3, 3, "0-3,0-4,0-5,1-3,1-4,1-5,2-3,2-4,2-5", "0,1,2,3,6,9");
        noSuch(4, 3, 4);
        noSuch(4, 4, 3);
        noSuch(4, 2, 6);
        noSuch(4, 6, 2);
        noSuch(4, -1, -1);
        noSuch(4, -2, -2);
        noSuch(5, 3, 1);
        // what would wrap around
        noSuch(4, 65536, 65536);
        noSuch(4, 1, Integer.MAX_VALUE);
        noSuch(4, Integer.MAX_VALUE, 1);
        noSuch(4, Integer.MIN_VALUE, 1);
        noSuch(4, 1, Integer.MIN_VALUE);
        noSuch(0, Integer.MIN_VALUE, 1);
        noSuch(Integer.MAX_VALUE, 3, 1);
    }

    /** In slot 0 a path of three, in slot 1 a star of two, and nothing in slot 2. */
    private static FairLabels twoNets() {
        FairLabels x = new FairLabels();
        x.family(0, 3, 0, 0);
        x.family(1, 2, 0, 1);
        return x;
    }

    private static FairLabels twoNetsAndText(String text) {
        FairLabels x = twoNets();
        Sentences.lay(x, text);
        return x;
    }

    private static FairLabels withoutLabel() {
        FairLabels x = twoNets();
        x.sets(0, 1, -1);
        return x;
    }

    /** A call is an act, undone by one undo: all slots are as they were. */
    private static void isAct(FairLabels x, java.util.function.ToIntFunction<FairLabels> call, int want) {
        int before = x.count(1);
        String was = slots(x);
        due(call.applyAsInt(x), want);
        due(x.count(1), before + 1);
        due(x.undo(), before);
        Sentences.same(slots(x), was);
    }

    private static void isNoAct(FairLabels x, java.util.function.ToIntFunction<FairLabels> call, int want) {
        int before = x.count(1);
        String was = slots(x);
        due(call.applyAsInt(x), want);
        due(x.count(1), before);
        Sentences.same(slots(x), was);
    }

    private static String slots(FairLabels x) {
        StringBuilder all = new StringBuilder();
        for (int s = 0; s < 3; s++) {
            x.tell(s, 0);
            all.append(x.look(s, 0)).append(x.look(s, 0) < 0 ? "" : Sentences.out(x)).append(' ');
            x.tell(s, 1);
            all.append(x.look(s, 0) < 0 ? "" : Sentences.out(x)).append(' ');
        }
        return all.toString();
    }

    private static void acts() {
        says("ACTS: told(), adds(), cuts(), sets() to another LABEL, takes() with new ones, reverse(), mirrors(), "
            + "sprouts(), grafts(), family(), drops() of a NET.");
        isAct(twoNetsAndText("net 2;"), x -> x.told(0), 0);
        isAct(twoNetsAndText("net 2;"), x -> x.told(2), 0);
        isAct(twoNetsAndText("net 3:0-1,1-2;labels 0=0,1=2,2=1;"), x -> x.told(0), 2);
        isNoAct(twoNetsAndText("net 2"), x -> x.told(0), -4);
        isNoAct(twoNetsAndText("net 2;"), x -> x.told(3), -2);
        isAct(twoNets(), x -> x.adds(0, 0, 2), 3);
        isNoAct(twoNets(), x -> x.adds(0, 0, 1), -5);
        isNoAct(twoNets(), x -> x.adds(0, 1, 1), -2);
        isAct(twoNets(), x -> x.cuts(0, 1, 0), 1);
        isNoAct(twoNets(), x -> x.cuts(0, 0, 2), -6);
        isNoAct(twoNets(), x -> x.cuts(0, 0, 0), -2);
        isAct(twoNets(), x -> x.sets(0, 1, 3), 2);
        isAct(twoNets(), x -> x.sets(0, 1, -1), 2);
        isNoAct(twoNets(), x -> x.sets(0, 1, 2), 2);
        isNoAct(twoNets(), x -> x.sets(0, 1, 100), -2);
        isAct(withoutLabel(), x -> x.sets(0, 1, 2), -1);
        isNoAct(withoutLabel(), x -> x.sets(0, 1, -1), -1);
        isAct(withoutLabel(), x -> x.takes(0, 0, 0), 1);
        isNoAct(withoutLabel(), x -> x.takes(0, 0, 1), -1);
        isNoAct(twoNets(), x -> x.takes(0, 0, 0), 0);
        isAct(twoNets(), x -> x.reverse(0), 3);
        isNoAct(withoutLabel(), x -> x.reverse(0), -6);
        isAct(with("net 1;labels 0=0;"), x -> x.reverse(0), 1);
        isAct(twoNets(), x -> x.mirrors(0), 1);
        isAct(twoNets(), x -> x.mirrors(1), 0);
        isAct(with("net 2:0-1;labels 0=0,1=1;"), x -> x.mirrors(0), 0);
        isNoAct(withoutLabel(), x -> x.mirrors(0), -6);
        isAct(twoNets(), x -> x.sprouts(0), 4);
        isNoAct(withoutLabel(), x -> x.sprouts(0), -6);
        isAct(twoNets(), x -> x.grafts(0, 1, 0), 5);
        isAct(twoNets(), x -> x.grafts(0, 1, 1), 5);
        isAct(twoNets(), x -> x.grafts(0, 1, 2), 5);
        isNoAct(withoutLabel(), x -> x.grafts(0, 1, 2), -6);
        isAct(twoNets(), x -> x.family(0, 3, 0, 0), 2);
        isAct(twoNets(), x -> x.family(2, 5, 0, 2), 5);
        isNoAct(twoNets(), x -> x.family(0, 1, 0, 2), -2);
        isAct(twoNets(), x -> x.drops(1), 1);
        isNoAct(twoNets(), x -> x.drops(2), 0);
        isNoAct(twoNets(), x -> x.drops(3), -2);
    }

    private static void latestTen() {
        says("The latest 10 can be undone one by one (SLOTS as they were).");
        for (int acts = 8; acts <= 23; acts++) {
            FairLabels x = new FairLabels();
            for (int i = 0; i < acts; i++) {
                due(x.count(1), Math.min(i, 10));
                x.family(0, 2 + i % 6, 0, i % 3);
            }
            int kept = Math.min(acts, 10);
            due(x.count(1), kept);
            for (int i = 1; i <= kept; i++) {
                due(x.undo(), kept - i);
                for (int s = 0; s < 3; s++) {
                    due(x.look(s, 0), pointsAfter(acts - i, s));
                }
            }
            due(x.undo(), -1);
            due(x.count(1), 0);
            for (int s = 0; s < 3; s++) {
                due(x.look(s, 0), pointsAfter(acts - kept, s));
            }
        }
        // undone ones make room: act, undo, act
        FairLabels x = with("net 2;");
        for (int l = 0; l < 10; l++) {
            x.sets(0, 0, l);
        }
        due(x.count(1), 10);
        due(x.undo(), 9);
        due(x.undo(), 8);
        x.sets(0, 0, 50);
        due(x.count(1), 9);
        due(x.undo(), 8);
        due(x.label(0, 0), 7);
        for (int l = 7; l >= 0; l--) {
            due(x.undo(), l);
            due(x.label(0, 0), l - 1);
        }
        due(x.undo(), -1);
        due(x.look(0, 0), 2);
    }

    /** The i-th of these acts put a path into a slot: what the latest ahead of an act left there. */
    private static int pointsAfter(int acts, int slot) {
        for (int i = acts - 1; i >= 0; i--) {
            if (i % 3 == slot) {
                return 2 + i % 6;
            }
        }
        return -2;
    }
}
