import java.io.IOException;
import java.nio.file.Files;
import java.nio.file.Path;
import java.util.regex.Matcher;
import java.util.regex.Pattern;

/** What the rules of LANGUAGE.md leave out, as far as it can be told from the words of the file. */
final class LanguageTest {
    private static final Path FILE = Path.of("src/main/java/GraveSegments.java");
    private static final int MOST_LINES = 60;
    private static final int MOST_PARAMETERS = 7;

    /** A method or constructor from its head to the brace that ends it, which is as far in as the head. */
    private static final Pattern METHOD = Pattern.compile(
            "(?m)^( +)(?:(?:public|private|static|final) )*(?:[\\w\\[\\]]+ )?\\w+\\(([^()]*)\\)[^;{}]*\\{(?s:.*?)^\\1\\}");

    public static void main(String[] args) throws IOException {
        Checks checks = Checks.of("LANGUAGE.md");
        String code = withoutComments(Files.readString(FILE));
        dueAbsent(checks, code, "the beginning: no package line", "\\bpackage\\b");
        dueAbsent(checks, code, "rule 1: nothing protected", "\\bprotected\\b");
        dueAbsent(checks, code, "rule 2: no lambda, no method reference", "->|::");
        dueAbsent(checks, code, "rule 4: no library but what is listed",
                "\\bimport\\b|\\bjava\\.|\\bSystem\\.(?!arraycopy)|\\b\\w+Exact\\b");
        dueAbsent(checks, code, "rule 5: static fields are final",
                "(?m)^ *(?:private |public )?static (?!final )[\\w\\[\\]]+ \\w+ *[=;]|\\bstatic *\\{");
        dueAbsent(checks, code, "rule 6: no finally, synchronized, assert",
                "\\bfinally\\b|\\bsynchronized\\b|\\bassert\\b");
        dueAbsent(checks, code, "rule 6: no equals, hashCode or toString of one's own",
                "\\bequals\\b|\\bhashCode\\b|\\btoString\\b");
        dueAbsent(checks, code, "rule 6: a throw makes what the document names",
                "\\bthrow\\b(?! new ArrayIndexOutOfBoundsException\\(\\);)");
        dueAbsent(checks, code, "rule 10: texts are not joined by +", "\"");
        dueShortMethods(checks, code);
        checks.end();
    }

    private static String withoutComments(String text) {
        return text.replaceAll("(?s)/\\*.*?\\*/", "").replaceAll("//[^\n]*", "");
    }

    private static void dueAbsent(Checks checks, String code, String rule, String pattern) {
        Matcher found = Pattern.compile(pattern).matcher(code);
        boolean isThere = found.find();
        checks.due(rule + (isThere ? ", yet there is: " + found.group() : ""), isThere ? 1 : 0, 0);
    }

    private static void dueShortMethods(Checks checks, String code) {
        Matcher method = METHOD.matcher(code);
        int seen = 0;
        while (method.find()) {
            seen++;
            String head = method.group().lines().findFirst().orElse("").strip();
            long lines = method.group().lines().count();
            checks.due("rule 11: so many lines are too many: " + head, lines > MOST_LINES ? lines : 0, 0);
            int parameters = method.group(2).isBlank() ? 0 : method.group(2).split(",").length;
            checks.due("rule 11: so many parameters are too many: " + head,
                    parameters > MOST_PARAMETERS ? parameters : 0, 0);
        }
        checks.due("no method was seen", seen == 0 ? 1 : 0, 0);
    }
}
