import java.nio.file.Files;
import java.nio.file.Path;
import java.util.regex.Matcher;
import java.util.regex.Pattern;

/** Of the rules of ../shared/LANGUAGE.md those that the text of the class shows; run from the project's root. */
public final class LanguageTest {
    static int wrong = 0;

    static void none(String rule, String text, String sought) {
        Matcher m = Pattern.compile(sought).matcher(text);
        while (m.find()) {
            wrong++;
            System.out.println("rule " + rule + ": " + m.group());
        }
    }

    static void atMost(String rule, int bound, int number) {
        if (number <= bound) return;
        wrong++;
        System.out.println("rule " + rule + ": " + number + " for at most " + bound);
    }

    static int found(String text, String sought) {
        int n = 0;
        Matcher m = Pattern.compile(sought).matcher(text);
        while (m.find()) n++;
        return n;
    }

    public static void main(String[] args) throws Exception {
        String text = Files.readString(Path.of("src/main/java/MergeLine.java"));
        for (int i = 0; i < text.length(); i++) if (text.charAt(i) > 126) none("3", text.substring(i, i + 1), ".");
        String code = text.replaceAll("(?s)/\\*.*?\\*/", "").replaceAll("//[^\n]*", "");
        none("4", code, "\\b(import|package)\\b[^;]*");
        none("6", code, "\\b(throw|throws|try|catch|finally|synchronized|assert|instanceof)\\b");
        none("2", code, "->|::");
        none("5", code, "\\bstatic\\s+\\{|\\bstatic (?!final )(?!class )[^(){}=;]*[=;]");
        none("6", code, "\\b(equals|hashCode|toString)\\b");
        none("1", code, "\\b(protected)\\b");
        none("4", code, "\\bSystem\\.(?!arraycopy\\()\\w*|\\bMath\\.(?!(min|max|abs|floorDiv|floorMod)\\()\\w*");
        Matcher open = Pattern.compile("(?m)^    public int (\\w+)\\(").matcher(code);
        while (open.find()) none("1, a private method of a public one's name", code, "private (static )?\\w+ " + open.group(1) + "\\([^;]*\\{");
        atMost("11, classes", 12, found(code, "\\bclass \\w"));
        for (String body : code.split("\\bclass ")) {
            atMost("11, fields", 20, found(body, "(?m)^\\s+private (final )?[\\w\\[\\]]+ \\w+( = [^;{]*)?;"));
        }
        Matcher m = Pattern.compile("(?m)^( +)[\\w\\[\\] ]+ (\\w+)\\(([^)]*)\\) \\{\n").matcher(code);
        while (m.find()) {
            int end = code.indexOf("\n" + m.group(1) + "}", m.end());
            atMost("11, lines of " + m.group(2), 60, found(code.substring(m.end(), Math.max(m.end(), end)), "\n"));
            atMost("11, parameters of " + m.group(2), 7, m.group(3).isBlank() ? 0 : found(m.group(3), ",") + 1);
        }
        System.out.println(wrong == 0 ? "no rule is seen to be broken" : wrong + " breaches");
        if (wrong != 0) System.exit(1);
    }
}
