import java.io.IOException;
import java.nio.charset.StandardCharsets;
import java.nio.file.Files;
import java.nio.file.Paths;
import java.util.regex.Matcher;
import java.util.regex.Pattern;

/** What of ../shared/LANGUAGE.md can be seen in the text of the class. Its path is the first argument. */
public final class LanguageTest {
    private static final int MOST_LINES = 60;
    private static final int MOST_PARAMETERS = 7;
    private static final String[] FORBIDDEN = {
        "\\bthrow\\b", "\\bthrows\\b", "\\btry\\b", "\\bcatch\\b", "\\bfinally\\b", "\\bsynchronized\\b",
        "\\bassert\\b", "->", "::", "\\bpackage\\b", "\\bprotected\\b", "\\bequals\\b", "\\bhashCode\\b",
        "\\btoString\\b", "\\bSystem\\.(?!arraycopy\\b)", "\\bThread\\b", "\\bRandom\\b", "\\brandom\\b",
        "\\w+Exact\\b", "\\bnative\\b", "\\bvolatile\\b", "\\btransient\\b", "\\bstatic\\s*\\{", "\\bNaN\\b",
        "\\bnew\\s+[\\w.]+\\s*\\([^)]*\\)\\s*\\{", "\"", "\\bgetClass\\b"};

    private static final Check CHECK = new Check("LanguageTest");

    private static String withoutComments(String text) {
        return text.replaceAll("(?s)/\\*.*?\\*/", "").replaceAll("//[^\n]*", "");
    }

    private static void forbidden(String code) {
        for (String word : FORBIDDEN) {
            Matcher m = Pattern.compile(word).matcher(code);
            CHECK.holds("'" + word + "' does not stand in it", !m.find());
        }
        Matcher imports = Pattern.compile("\\bimport\\s+([^;]+);").matcher(code);
        while (imports.find()) {
            CHECK.holds("import " + imports.group(1) + " is one of the library's",
                    imports.group(1).matches("java\\.util\\.(Arrays|ArrayList|List|Iterator)"));
        }
    }

    private static int endOf(String code, int open) {
        int depth = 0;
        for (int i = open; i < code.length(); i++) {
            if (code.charAt(i) == '{') {
                depth++;
            } else if (code.charAt(i) == '}') {
                depth--;
                if (depth == 0) {
                    return i;
                }
            }
        }
        return code.length();
    }

    private static void methods(String code) {
        Matcher m = Pattern.compile("\\n +[\\w\\[\\] ]*?(\\w+)\\(([^()]*)\\) \\{\\n").matcher(code);
        int found = 0;
        while (m.find()) {
            if (m.group(1).matches("if|for|while|switch")) {
                continue;
            }
            found++;
            int open = m.end() - 2;
            int lines = code.substring(open, endOf(code, open)).split("\n").length;
            CHECK.holds(m.group(1) + " is short", lines <= MOST_LINES);
            CHECK.holds(m.group(1) + " takes few parameters",
                    m.group(2).isEmpty() || m.group(2).split(",").length <= MOST_PARAMETERS);
        }
        CHECK.holds("its methods were seen", found > 60);
    }

    public static void main(String[] args) throws IOException {
        String text = new String(Files.readAllBytes(Paths.get(args[0])), StandardCharsets.UTF_8);
        CHECK.holds("its signs are 1 to 127", text.chars().allMatch(c -> c > 0 && c < 128));
        forbidden(withoutComments(text));
        methods(withoutComments(text));
        CHECK.end();
    }
}
