import java.nio.file.Files;
import java.nio.file.Path;
import java.util.regex.Matcher;
import java.util.regex.Pattern;

/** What of the language's rules can be seen in the program's text. */
public final class LanguageTest {
    private static final String[] NONE = {"\\bimport\\b", "\\bpackage\\b", "->", "::", "\\bthrow\\b", "\\btry\\b", "\\bcatch\\b",
        "\\bsynchronized\\b", "\\bassert\\b", "\\bprotected\\b", "static\\s*\\{", "Exact\\b", "\\bSystem\\b", "\\bObject\\b",
        "\"\\s*\\+", "\\+\\s*\"", "\\bwhile\\s*\\(true\\)", "\\bfor\\s*\\(;;", "\\bThread\\b", "\\bNaN\\b"};

    private LanguageTest() {
    }

    public static void main(String[] args) throws Exception {
        String text = Files.readString(Path.of("src/main/java/PlainMusic.java"));
        String code = text.replaceAll("(?s)/\\*.*?\\*/", "").replaceAll("//[^\n]*", "");
        for (String none : NONE) {
            Due.is("'" + none + "' stands in the program", Pattern.compile(none).matcher(code).find() ? 1 : 0, 0);
        }
        Matcher classes = Pattern.compile("\\b(class|enum|interface|record) [A-Z]").matcher(code);
        int all = 0;
        while (classes.find()) {
            all++;
        }
        Due.is("at most twelve classes", all >= 1 && all <= 12 ? 1 : 0, 1);
        methodsAreShort(text);
        new PlainMusic().score();
        Due.end("LanguageTest");
    }

    private static void methodsAreShort(String text) {
        String[] lines = text.split("\n");
        int begun = -1;
        String name = "";
        for (int i = 0; i < lines.length; i++) {
            String line = lines[i];
            Matcher head = Pattern.compile("^ {4}(?: {4})?[a-zA-Z\\[\\] ]*\\b(\\w+)\\(.*\\) \\{$").matcher(line);
            if (head.find() && line.charAt(8) != ' ') {
                begun = i;
                name = head.group(1);
            }
            if (begun >= 0 && (line.equals("    }") || line.equals("        }"))) {
                Due.is(name + " is short", i - begun <= 60 ? 1 : 0, 1);
                begun = -1;
            }
        }
    }
}
