import java.io.IOException;
import java.nio.file.Files;
import java.nio.file.Path;
import java.util.regex.Matcher;
import java.util.regex.Pattern;

/** Those rules of LANGUAGE.md that the class's text shows: run from the project's folder. */
public final class LanguageTest {
    private static final String[] NOT_THERE = {
        "\\b(throw|throws|try|catch|finally|synchronized|assert)\\b",
        "->", "::", "\\byield\\b", "\\bvar\\b", "Exact\\b",
        "\\b(equals|hashCode|toString)\\b",
        "\\b(Random|Thread|File|System\\.(?!arraycopy))\\b",
        "\\b(double|float|Object|Map|Set|Optional|Stream)\\b",
        "\\]\\s*\\[\\s*\\]\\s*\\[", "\\bpackage\\b",
        "import (?!java\\.util\\.Arrays;)",
        "Arrays\\.(?!fill\\b|copyOf\\b|copyOfRange\\b)",
        "while \\(true\\)", "for \\(;;\\)",
    };
    private static final int LONGEST_METHOD = 60;
    private static final Due DUE = new Due();

    public static void main(String[] args) throws IOException {
        String text = Files.readString(Path.of("src/main/java/NewCoins.java"));
        String code = text.replaceAll("(?s)/\\*.*?\\*/", "").replaceAll("//[^\n]*", "");
        for (String pattern : NOT_THERE) {
            Matcher m = Pattern.compile(pattern).matcher(code);
            DUE.is("the text has " + pattern, false, m.find());
        }
        oneDivision(code);
        loopsByOne(code);
        lengths(text);
        DUE.end();
    }

    /** All division goes through the one method that looks at its divisor. */
    private static void oneDivision(String code) {
        Matcher m = Pattern.compile("[^/*][/%][^/*]|(floor|ceil)(Div|Mod)").matcher(code);
        int divisions = 0;
        while (m.find()) {
            divisions++;
        }
        DUE.is("places that divide", 1, divisions);
    }

    /** Rule 9: a counter that goes by one ends, whatever the numbers are; one by += 0 would not. */
    private static void loopsByOne(String code) {
        Matcher m = Pattern.compile("\\bfor \\([^;]*;[^;]*;([^{]*)\\) \\{").matcher(code);
        int loops = 0;
        while (m.find()) {
            loops++;
            DUE.is("the loop's step" + m.group(1), true, m.group(1).matches(" \\w+(\\+\\+|--)"));
        }
        DUE.is("loops by a counter are found", true, loops > 0);
    }

    private static void lengths(String text) {
        String[] lines = text.split("\n");
        int start = 0;
        String indent = null;
        for (int i = 0; i < lines.length; i++) {
            DUE.is("line " + (i + 1) + " has over 100 characters", false, lines[i].length() > 100);
            Matcher m = Pattern.compile("^( +)[\\w\\[\\] ]+\\([^)]*\\) \\{$").matcher(lines[i]);
            boolean head = m.find() && !lines[i].matches(" +(if|for|while|switch) .*");
            if (head) {
                start = i;
                indent = m.group(1);
            } else if (indent != null && lines[i].equals(indent + "}")) {
                DUE.is("method at line " + (start + 1) + " is too long", false,
                        i - start + 1 > LONGEST_METHOD);
                indent = null;
            }
        }
    }
}
