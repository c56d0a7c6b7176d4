import java.io.IOException;
import java.nio.file.Files;
import java.nio.file.Path;
import java.util.LinkedHashMap;
import java.util.Map;
import java.util.function.Supplier;
import java.util.function.ToIntFunction;
import java.util.regex.Matcher;
import java.util.regex.Pattern;

/**
 * What the tests of single sentences share. A test names the sentence that it
 * asks about; the document must have it, and the sections that a test stands
 * for must be named whole, so that no sentence is left without a test.
 */
final class Sentences {
    private static final Path DOCUMENT = Path.of("../shared/DOC.md");
    private static final int ENOUGH_CALLS = 350;

    private static final Map<String, String> sections = new LinkedHashMap<>();
    private static final Map<String, boolean[]> named = new LinkedHashMap<>();
    private static final StringBuilder probed = new StringBuilder();
    private static int probes = 0;
    private static String section = "";
    private static String sentence = "";
    private static int sentences = 0;
    private static int asked = 0;
    private static int askedHere = 1;
    private static int wrong = 0;

    private Sentences() {
    }

    /** The answers that follow are due by this sentence. */
    static void says(String where, String words) {
        if (sections.isEmpty()) {
            readDocument();
        }
        noteIfNothingAsked();
        section = where;
        sentence = words;
        sentences++;
        askedHere = 0;
        if (sections.containsKey("")) {
            return;
        }
        String text = sections.get(where);
        if (text == null || !text.contains(words)) {
            wrong("the document has no such sentence");
            return;
        }
        boolean[] marks = named.get(where);
        for (int at = text.indexOf(words); at >= 0; at = text.indexOf(words, at + 1)) {
            for (int i = at; i < at + words.length(); i++) {
                marks[i] = true;
            }
        }
    }

    static void due(int got, int want) {
        asked++;
        askedHere++;
        if (got != want) {
            wrong("answered " + got + ", due is " + want);
        }
    }

    static void same(String got, String want) {
        asked++;
        askedHere++;
        if (!got.equals(want)) {
            wrong("has " + got + ", due is " + want);
        }
    }

    /** Ends the test; the sections of these names must have been named whole. */
    static void finish(String... whole) {
        noteIfNothingAsked();
        for (String where : whole) {
            lookForUnnamed(where);
        }
        System.out.println(sentences + " sentences, " + asked + " answers looked at, " + wrong + " wrong");
        if (wrong != 0) {
            System.exit(1);
        }
    }

    private static void noteIfNothingAsked() {
        if (askedHere == 0) {
            wrong("nothing is asked about this sentence");
        }
    }

    private static void lookForUnnamed(String where) {
        String text = sections.get(where);
        if (sections.containsKey("")) {
            return;
        }
        if (text == null) {
            wrong("the document has no section " + where);
            return;
        }
        StringBuilder rest = new StringBuilder();
        for (int i = 0; i < text.length(); i++) {
            rest.append(named.get(where)[i] ? '\n' : text.charAt(i));
        }
        String left = rest.toString().replaceAll("\\s+", " ").trim();
        if (!left.isEmpty()) {
            section = where;
            sentence = left;
            wrong("no test names this");
        }
    }

    private static void wrong(String what) {
        wrong++;
        StringBuilder at = new StringBuilder();
        for (StackTraceElement e : new Throwable().getStackTrace()) {
            boolean ofTest = !e.getClassName().equals("Sentences") && !e.getMethodName().equals("main");
            at.append(ofTest ? " " + e.getLineNumber() : "");
        }
        System.out.println(section + " \"" + sentence + "\", line" + at + ": " + what);
    }

    /** Without the document beside the project, sentences are not looked up. */
    private static void readDocument() {
        try {
            if (!Files.isReadable(DOCUMENT)) {
                System.out.println("no document at " + DOCUMENT + ": sentences are not looked up in it");
                sections.put("", "");
                return;
            }
            String all = Files.readString(DOCUMENT).replaceAll("```\\w*", " ").replaceAll("[ \t]*\n\\s*", "\n");
            for (String part : all.split("\n(?=## )")) {
                String title = part.replaceFirst("(?s)\n.*", "").replaceFirst("^#+ ", "");
                String body = part.contains("\n") ? part.substring(part.indexOf('\n') + 1) : "";
                if (title.equals("Terms")) {
                    cutTerms(body);
                } else {
                    keep(title.replaceFirst("^(Promise \\d+): .*", "$1"), body.replaceFirst("^`[^`]*`: ", ""));
                }
            }
        } catch (IOException e) {
            throw new IllegalStateException(e);
        }
    }

    private static void cutTerms(String body) {
        Matcher m = Pattern.compile("(?s)(?:^|\n)(?:([IV]+)\\. |(?=SLOTS ))(.*?)(?=\n[IV]+\\. |\nSLOTS |$)").matcher(body);
        while (m.find()) {
            keep(m.group(1) == null ? "Terms, SLOTS" : "Terms " + m.group(1), m.group(2));
        }
    }

    private static void keep(String where, String text) {
        String flat = text.replaceAll("\\s+", " ").trim();
        sections.put(where, flat);
        named.put(where, new boolean[flat.length()]);
    }

    /** The text comes on the tape, byte by byte, and nothing else. */
    static void lay(FairLabels x, String text) {
        x.end(0);
        for (int i = 0; i < text.length(); i += 20) {
            int[] w = new int[5];
            for (int j = 0; j < 20; j++) {
                w[j / 4] = w[j / 4] << 8 | (i + j < text.length() ? text.charAt(i + j) : 0);
            }
            x.feed(w[0], w[1], w[2], w[3], w[4]);
        }
        x.end(text.length());
    }

    static int tells(FairLabels x, int slot, String text) {
        lay(x, text);
        return x.told(slot);
    }

    static FairLabels with(String text) {
        FairLabels x = new FairLabels();
        tells(x, 0, text);
        return x;
    }

    /** A text is told to a new object: as many lines, without fault. */
    static FairLabels good(String text, int lines) {
        FairLabels x = new FairLabels();
        due(tells(x, 0, text), lines);
        due(x.fault(0), 0);
        due(x.fault(1), -1);
        return x;
    }

    static void faulty(String text, int number, int place) {
        FairLabels x = new FairLabels();
        due(tells(x, 0, text), -4);
        due(x.fault(0), number);
        due(x.fault(1), place);
        due(x.count(0), 0);
    }

    static String out(FairLabels x) {
        StringBuilder b = new StringBuilder();
        for (int i = 0; i < x.count(3); i++) {
            b.append((char) x.octet(i));
        }
        return b.toString();
    }

    static void labels(FairLabels x, int slot, String want) {
        StringBuilder b = new StringBuilder();
        for (int p = 0; p < x.look(slot, 0); p++) {
            b.append(p == 0 ? "" : ",").append(x.label(slot, p) == -1 ? "-" : Integer.toString(x.label(slot, p)));
        }
        same(b.toString(), want);
    }

    static void lines(FairLabels x, int slot, String want) {
        StringBuilder b = new StringBuilder();
        for (int i = 0; i < x.look(slot, 1); i++) {
            b.append(i == 0 ? "" : ",").append(x.line(slot, i, 0)).append('-').append(x.line(slot, i, 1));
        }
        same(b.toString(), want);
    }

    /** A call has this answer and changes nothing: a twin that was spared it tells how all was. */
    static void stays(Supplier<FairLabels> maker, ToIntFunction<FairLabels> call, int want) {
        FairLabels x = maker.get();
        due(call.applyAsInt(x), want);
        same(probe(x), probe(maker.get()));
    }

    /** All that an object tells of itself, its tape and what can be undone last, since asking changes these. */
    private static String probe(FairLabels x) {
        probed.setLength(0);
        probes = 0;
        note(x.fault(0));
        note(x.fault(1));
        for (int what = 0; what < 4; what++) {
            note(x.count(what));
        }
        for (int i = 0; i < x.count(3); i++) {
            note(x.octet(i));
        }
        probeSlots(x);
        note(x.told(2));
        note(x.fault(0));
        note(x.fault(1));
        probeSlots(x);
        for (int left = x.undo(); left >= 0 && probes < ENOUGH_CALLS; left = x.undo()) {
            note(left);
            probeSlots(x);
        }
        return probed.toString();
    }

    private static void probeSlots(FairLabels x) {
        for (int s = 0; s < 3; s++) {
            int points = x.look(s, 0);
            note(points);
            for (int p = 0; p < points; p++) {
                note(x.label(s, p));
            }
            int lines = x.look(s, 1);
            note(lines);
            for (int i = 0; i < lines; i++) {
                note(x.line(s, i, 0));
                note(x.line(s, i, 1));
            }
        }
    }

    private static void note(int answer) {
        probes++;
        probed.append(answer).append(' ');
    }
}
