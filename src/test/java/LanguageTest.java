import java.nio.file.Files;
import java.nio.file.Path;
import java.util.regex.Matcher;
import java.util.regex.Pattern;

/** Looks for what ../shared/LANGUAGE.md leaves out of the program, as far as its text shows it. */
public final class LanguageTest {
    private static final String[] LEFT_OUT = {"^\\s*package ", "->", "::", "\\bfinally\\b", "\\bsynchronized\\b",
        "\\bassert\\b", "\\bcatch\\b", "\\bthrow\\b", "Exact\\b", "\\bprotected\\b", "\\+ \"", "\" \\+", "\\brecord\\b",
        "\\bthis\\s*[,)]", "System\\.(?!arraycopy)", "Math\\.(?!min|max)", "Integer\\.(?!bitCount)",
        "Arrays\\.(?!fill)", "\\bimport (?!java\\.util\\.Arrays;)", "\\.(equals|hashCode|toString)\\(",
        "\\bvolatile\\b", "\\btransient\\b", "\\bnative\\b", "static \\{", "instanceof", "[^\\x00-\\x7f]"};
    private static final int MOST_LINES = 60;
    private static final Pattern METHOD_START = Pattern.compile("^( {4}| {8})[a-zA-Z].*\\) \\{$");

    public static void main(String[] args) throws Exception {
        int wrong = 0;
        String[] lines = Files.readString(Path.of("src/main/java/UrnHeap.java")).split("\n");
        for (String left : LEFT_OUT) {
            Pattern pattern = Pattern.compile(left);
            for (int i = 0; i < lines.length; i++) {
                if (!isComment(lines[i]) && pattern.matcher(lines[i]).find()) {
                    System.out.println("line " + (i + 1) + " has " + left + ": " + lines[i].trim());
                    wrong++;
                }
            }
        }
        wrong += longMethods(lines);
        System.out.println("LanguageTest: " + lines.length + " lines, " + wrong + " wrong");
        if (wrong != 0) {
            System.exit(1);
        }
    }

    private static boolean isComment(String line) {
        String text = line.trim();
        return text.startsWith("//") || text.startsWith("/**") || text.startsWith("*");
    }

    private static int longMethods(String[] lines) {
        int wrong = 0;
        for (int i = 0; i < lines.length; i++) {
            Matcher start = METHOD_START.matcher(lines[i]);
            if (!start.find()) {
                continue;
            }
            int end = i;
            while (end < lines.length - 1 && !lines[end].equals(start.group(1) + "}")) {
                end++;
            }
            boolean isWide = lines[i].split(",").length > 7;
            if (end - i + 1 > MOST_LINES || isWide) {
                System.out.println("line " + (i + 1) + ": a method of " + (end - i + 1) + " lines: " + lines[i].trim());
                wrong++;
            }
        }
        return wrong;
    }
}
