import java.nio.file.Files;
import java.nio.file.Path;
import java.util.ArrayList;
import java.util.Arrays;
import java.util.List;
import java.util.regex.Matcher;
import java.util.regex.Pattern;

/** What of LANGUAGE.md can be seen in the text of the class. */
public final class LanguageTests {
    private static final String SOURCE = "src/main/java/IdealWorks.java";
    private static final String[] FORBIDDEN = {
        "->", "::", "\\bfinally\\b", "\\bassert\\b", "\\bsynchronized\\b", "\\bcatch\\b", "\\btry\\b", "\\w+Exact\\b",
        "\\bvar\\b", "\\bpackage\\b", "\\bnative\\b", "\\bprotected\\b", "\\bhashCode\\b", "\\btoString\\b", "\\bObject\\b",
        "\\bRandom\\b", "\\bThread\\b", "\\bSystem\\.(?!arraycopy)", "\\bMath\\.(?!max|min|floorMod)", "\\bInteger\\.(?!bitCount)",
        "\\bArrays\\.(?!fill)", "\\bstatic\\s*\\{", "\\[\\]\\[\\]\\[\\]",
    };
    private static int wrong = 0;

    private static void check(boolean fine, String what) {
        if (!fine) {
            wrong++;
            System.out.println("wrong: " + what);
        }
    }

    private static String withoutComments(String text) {
        return text.replaceAll("(?s)/\\*.*?\\*/", "").replaceAll("//[^\n]*", "");
    }

    private static void checkWords(String code) {
        for (String pattern : FORBIDDEN) {
            Matcher m = Pattern.compile(pattern).matcher(code);
            check(!m.find(), pattern + " stands in the class");
        }
        Matcher imports = Pattern.compile("import ([^;]+);").matcher(code);
        while (imports.find()) {
            check(imports.group(1).equals("java.util.Arrays"), "import of " + imports.group(1));
        }
        Matcher thrown = Pattern.compile("throw new (\\w+)\\(\\)").matcher(code);
        List<String> known = Arrays.asList("IllegalStateException", "IllegalArgumentException", "IndexOutOfBoundsException");
        while (thrown.find()) {
            check(known.contains(thrown.group(1)), thrown.group(1) + " is thrown");
        }
    }

    private static void checkMethods(String code) {
        List<String> lines = new ArrayList<>(Arrays.asList(code.split("\n")));
        Pattern head = Pattern.compile("^( {4}| {8})(?:[\\w\\[\\]]+ )+(\\w+)\\((.*)\\).*\\{$");
        for (int at = 0; at < lines.size(); at++) {
            Matcher m = head.matcher(lines.get(at));
            if (!m.matches() || lines.get(at).contains(" new ")) {
                continue;
            }
            int end = at;
            while (end < lines.size() && !lines.get(end).equals(m.group(1) + "}")) {
                end++;
            }
            check(end - at <= 60, m.group(2) + " has " + (end - at) + " lines");
            check(m.group(3).split(",").length <= 7, m.group(2) + " has many parameters");
        }
    }

    public static void main(String[] args) throws Exception {
        String code = withoutComments(Files.readString(Path.of(SOURCE)));
        check(code.chars().allMatch(c -> c < 128), "a character above 127");
        checkWords(code);
        checkMethods(code);
        System.out.println(wrong == 0 ? "the language is kept" : wrong + " things are not as due");
        if (wrong != 0) {
            System.exit(1);
        }
    }
}
