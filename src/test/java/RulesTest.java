import java.nio.file.Files;
import java.nio.file.Path;
import java.util.regex.Matcher;
import java.util.regex.Pattern;

/** What a look at the text of the program can tell of ../shared/LANGUAGE.md. */
final class RulesTest {
    private static final String[] FORBIDDEN = {
        "->", "::", "\\bcatch\\b", "\\btry\\b", "\\bfinally\\b", "\\bsynchronized\\b", "\\bassert\\b", "\\bpackage\\b",
        "\\bprotected\\b", "\\binstanceof\\b", "\\bFloat\\.", "\\bDouble\\.", "\\bSystem\\.(?!arraycopy)", "Exact\\(",
        "\\bMath\\.(?!(max|min|abs|floorDiv|floorMod)\\()", "\\bhashCode\\b", "\\bequals\\b", "\\btoString\\b",
        "\\bstatic (?!final\\b|int\\b|boolean\\b)", "@", "\\bString\\b",
    };

    private final Check check;
    private final String root;

    RulesTest(Check check, String root) {
        this.check = check;
        this.root = root;
    }

    void run() throws Exception {
        check.rule("rules of the language");
        String text = Files.readString(Path.of(root, "src/main/java/SmokeRacks.java"));
        check.holds("plain signs alone", text.chars().allMatch(sign -> sign == '\n' || sign >= 32 && sign < 127));
        String code = text.replaceAll("(?s)/\\*.*?\\*/", "").replaceAll("//[^\n]*", "").replaceAll("'[^']'", "' '");
        for (String forbidden : FORBIDDEN) {
            check.holds("no " + forbidden, !Pattern.compile(forbidden).matcher(code).find());
        }
        check.due("imports", count(code, "\\bimport\\b"), count(code, "import java\\.util\\.NoSuchElementException;"));
        check.due("static fields are constants", count(code, "static final (int|boolean) \\w+ = "),
            count(code, "\\bstatic final (?!class)"));
        check.holds("at most twelve classes", count(code, "\\bclass\\b") <= 12);
        lengths(code);
    }

    private void lengths(String code) {
        int begin = 0;
        String[] lines = code.split("\n");
        for (int i = 0; i < lines.length; i++) {
            if (lines[i].matches(" {4,8}\\w.*\\(.*\\).*\\{")) {
                begin = i;
            }
            check.holds("a short method around line " + i, begin == 0 || i - begin <= 70);
        }
    }

    private static int count(String code, String wanted) {
        Matcher matcher = Pattern.compile(wanted).matcher(code);
        int many = 0;
        while (matcher.find()) {
            many++;
        }
        return many;
    }
}
