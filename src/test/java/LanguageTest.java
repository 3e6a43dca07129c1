import java.nio.file.Files;
import java.nio.file.Path;
import java.util.List;
import java.util.regex.Matcher;
import java.util.regex.Pattern;

/** What of ../shared/LANGUAGE.md can be seen from the rows of the one file. It is run from the project's folder. */
final class LanguageTest {
    public static void main(String[] args) throws Exception {
        List<String> rows = Files.readAllLines(Path.of("src/main/java/GhostAssize.java"));
        StringBuilder code = new StringBuilder();
        for (String row : rows) {
            String bare = row.replaceAll("\"[^\"]*\"", "\"\"").replaceAll("//.*", "").replaceAll("/\\*\\*.*|^ *\\*.*", "");
            code.append(bare).append('\n');
        }
        nothingForbidden(code.toString());
        importsAlone(code.toString());
        staticsAreConstants(code.toString());
        shortMethods(rows);
        fewParameters(code.toString());
        Check.close();
    }

    private static void nothingForbidden(String code) {
        String[] never = {"->", "::", "\\bfinally\\b", "\\bcatch\\b", "\\btry\\b", "\\bsynchronized\\b", "\\bassert\\b",
            "\\bpackage\\b", "\"\" *\\+", "\\+ *\"\"", "\\bSystem\\.(?!arraycopy)", "Exact\\b", "\\bprotected\\b",
            "\\bhashCode\\b", "\\btoString\\b", "\\bThread\\b", "\\bdouble\\b", "\\bfloat\\b", "\\bextends\\b",
            "Math\\.(?!max|min)", "Arrays\\.(?!fill|copyOf)", "\\bstatic *\\{", "\\bwhile *\\( *true"};
        for (String one : never) {
            Matcher m = Pattern.compile(one).matcher(code);
            Check.same("the file has " + one, m.find(), false);
        }
    }

    private static void importsAlone(String code) {
        Matcher m = Pattern.compile("import ([^;]*);").matcher(code);
        while (m.find()) {
            Check.same("import " + m.group(1), m.group(1).matches("java.util.(Arrays|NoSuchElementException)"), true);
        }
    }

    private static void staticsAreConstants(String code) {
        Matcher m = Pattern.compile("static (?!final class)([^;={]*)[;={]").matcher(code);
        while (m.find()) {
            Check.same("static " + m.group(1), m.group(1).matches("final (int|long) [A-Z_]+ *"), true);
        }
    }

    private static void shortMethods(List<String> rows) {
        int begin = -1;
        for (int i = 0; i < rows.size(); i++) {
            if (rows.get(i).matches(" {4,8}(?!.*\\b(class|new|return)\\b)[^ }/*].*\\{")) {
                begin = begin < 0 ? i : begin;
            }
            if (begin >= 0 && rows.get(i).matches(rows.get(begin).replaceAll("[^ ].*", "") + "}")) {
                Check.same("the method at row " + (begin + 1) + " is short", i - begin < 60, true);
                begin = -1;
            }
            Check.same("row " + (i + 1) + " is no longer than 120", rows.get(i).length() <= 120, true);
            Check.same("row " + (i + 1) + " has signs 1 to 127", rows.get(i).chars().allMatch(c -> c > 0 && c < 128), true);
        }
    }

    private static void fewParameters(String code) {
        Matcher m = Pattern.compile("(?:int|boolean|void|Law|int\\[\\]|[A-Z]\\w+)\\s+\\w+\\(([^()]*)\\)[^;]*\\{").matcher(code);
        int seen = 0;
        while (m.find()) {
            seen++;
            Check.same("parameters " + m.group(1), m.group(1).split(",").length <= 7, true);
        }
        Check.same("methods were seen", seen > 80, true);
    }
}
