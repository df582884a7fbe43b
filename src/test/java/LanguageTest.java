import java.nio.file.Files;
import java.nio.file.Path;
import java.util.regex.Matcher;
import java.util.regex.Pattern;

/** The rules of LANGUAGE.md that can be seen in the text of the program. */
public final class LanguageTest {
    private static final String[] NEVER = {
        "\\bthrow\\b", "\\bthrows\\b", "\\btry\\b", "\\bcatch\\b", "\\bfinally\\b", "\\bassert\\b",
        "\\bsynchronized\\b", "\\bvolatile\\b", "\\bnative\\b", "->", "::", "\\bimport\\b", "\\bpackage\\b",
        "\\bThread\\b", "\\bRandom\\b", "nanoTime", "currentTimeMillis", "\\bhashCode\\b", "\\btoString\\b",
        "Exact\\b", "\\bprotected\\b", "static\\s*\\{", "@", "\\bvar\\b", "\\bObject\\b",
    };
    private static final String LIBRARY = "\\b(Math|Integer|Long|System|Arrays|String|StringBuilder)\\.(\\w+)";
    private static final String ALLOWED = "Math.abs Math.min Math.max Integer.bitCount System.arraycopy";

    public static void main(String[] args) throws Exception {
        Due due = new Due();
        String text = Files.readString(Path.of("src/main/java/PigLine.java"));
        due.holds("characters 0 to 255", text.chars().allMatch(c -> c < 256));
        String code = text.replaceAll("(?s)/\\*.*?\\*/", "").replaceAll("//[^\n]*", "");
        for (String never : NEVER) {
            due.holds("without " + never, !Pattern.compile(never).matcher(code).find());
        }
        Matcher library = Pattern.compile(LIBRARY).matcher(code);
        while (library.find()) {
            due.holds(library.group() + " is allowed", (" " + ALLOWED + " ").contains(" " + library.group() + " "));
        }
        Matcher fixed = Pattern.compile("\\bstatic (?!final )\\S+( \\w+)?( =|;)").matcher(code);
        due.holds("static fields are final", !fixed.find());
        due.holds("some twelve classes", code.split("\\bclass ", -1).length - 1 <= 12);
        shortMethods(due, code);
        due.end();
    }

    /** A method begins at a line that ends in ") {" behind 4 or 8 blanks, and ends at its brace. */
    private static void shortMethods(Due due, String code) {
        String[] lines = code.split("\n");
        for (int i = 0; i < lines.length; i++) {
            String head = lines[i];
            String margin = head.substring(0, head.length() - head.stripLeading().length());
            boolean begins = head.endsWith(") {") && (margin.length() == 4 || margin.length() == 8)
                    && !head.strip().matches("(if|for|while|switch|\\}).*");
            int end = i;
            while (begins && end < lines.length && !lines[end].equals(margin + "}")) {
                end++;
            }
            due.holds("short: " + head.strip(), end - i < 60);
        }
    }
}
