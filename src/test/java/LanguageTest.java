import java.io.IOException;
import java.nio.file.Files;
import java.nio.file.Path;
import java.util.ArrayList;
import java.util.List;
import java.util.regex.Matcher;
import java.util.regex.Pattern;

/**
 * Those rules of LANGUAGE.md that can be seen in the text of the source: words
 * that may not stand there, long methods, many parameters, names of the face.
 */
public final class LanguageTest {
    private static final Path SOURCE = Path.of("src/main/java/FairLabels.java");
    private static final String[] BARRED = {
        "throw", "try", "catch", "synchronized", "assert", "->", "::", "Exact\\b", "Object\\b", "\\binstanceof\\b",
        "System\\.(?!arraycopy)", "\\bprotected\\b", "static\\s*\\{", "\"\\s*\\+", "\\+\\s*\"", "Random",
        "\\bThread", "hashCode", "toString", "\\bvar\\b", "\\bimport (?!java\\.util\\.Arrays;)", "\\bpackage\\b"};
    private static int wrong = 0;

    public static void main(String[] args) throws IOException {
        String whole = Files.readString(SOURCE);
        String code = whole.replaceAll("(?s)/\\*.*?\\*/", "").replaceAll("//[^\n]*", "");
        for (String word : BARRED) {
            Matcher m = Pattern.compile(word.matches("[a-z]+") ? "\\b" + word + "\\b" : word).matcher(code);
            if (m.find()) {
                say("the source has " + m.group());
            }
        }
        for (int i = 0; i < whole.length(); i++) {
            if (whole.charAt(i) > 126) {
                say("the source has the sign " + (int) whole.charAt(i));
            }
        }
        lookAtMethods(code);
        System.out.println(wrong + " breaches of the language");
        if (wrong != 0) {
            System.exit(1);
        }
    }

    private static void say(String breach) {
        wrong++;
        System.out.println(breach);
    }

    private static void lookAtMethods(String code) {
        Pattern head = Pattern.compile(
            "\n( +)((?:public |private |static |final )*)(?:int|void|boolean|String|long) (\\w+)\\(([^)]*)\\) \\{");
        List<String> open = new ArrayList<>();
        List<String> others = new ArrayList<>();
        Matcher m = head.matcher(code);
        int methods = 0;
        while (m.find()) {
            methods++;
            (m.group(2).contains("public") ? open : others).add(m.group(3));
            int params = m.group(4).isBlank() ? 0 : m.group(4).split(",").length;
            if (params > 7) {
                say(m.group(3) + " takes " + params + " parameters");
            }
            int close = code.indexOf("\n" + m.group(1) + "}", m.end());
            long rows = code.substring(m.start(), close).chars().filter(c -> c == '\n').count();
            if (rows > 60) {
                say(m.group(3) + " has " + rows + " lines");
            }
        }
        for (String name : others) {
            if (open.contains(name)) {
                say("a method that is not open has the name " + name);
            }
        }
        if (open.size() != 38 || methods < 60) {
            say("only " + methods + " methods were found, " + open.size() + " of them open");
        }
        int classes = code.split("\\bclass \\w+ \\{", -1).length - 1;
        if (classes > 12) {
            say("there are " + classes + " classes");
        }
    }
}
