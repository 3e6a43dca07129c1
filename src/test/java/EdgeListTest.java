import java.nio.file.DirectoryStream;
import java.nio.file.Files;
import java.nio.file.Path;
import java.util.regex.Matcher;
import java.util.regex.Pattern;

/**
 * The list of the edges is the document itself: all words that a test names by Check.sentence stand in it, and each of its
 * phrases that tells an edge stands in words that a test names. It is run from the project's folder.
 */
final class EdgeListTest {
    private static final Pattern EDGE = Pattern.compile("at most|at least|at first|\\bnone\\b|\\bNONE\\b|rounded down|of several"
            + "|\\bwithout\\b|\\b\\d+ to \\d+|\\bfewer\\b|\\bfewest\\b|more than|goes round|below 0|\\bempty\\b|\\btwice\\b"
            + "|\\bwrong\\b|nothing|\\babove\\b|\\blatest\\b|Exception:|\\bFalse\\b|too many|cannot|\\bif just\\b");
    private static final Pattern NAMED = Pattern.compile("Check\\.sentence\\(((?:\\s*\\+?\\s*\"(?:[^\"\\\\]|\\\\.)*\")+)\\)");

    public static void main(String[] args) throws Exception {
        String all = plain(Files.readString(Path.of("../shared/DOC.md")));
        int begin = all.indexOf("## Terms");
        int end = all.indexOf("## Not promised");
        Check.same("the document has its parts", begin > 0 && end > begin, true);
        boolean[] isNamed = new boolean[all.length()];
        int many = 0;
        try (DirectoryStream<Path> files = Files.newDirectoryStream(Path.of("src/test/java"), "*Test.java")) {
            for (Path file : files) {
                Matcher m = NAMED.matcher(Files.readString(file));
                while (m.find()) {
                    name(all, isNamed, words(m.group(1)));
                    many++;
                }
            }
        }
        Check.same("tests name sentences", many > 100, true);
        Matcher edge = EDGE.matcher(all);
        for (int from = begin; edge.find(from) && edge.start() < end; from = edge.end()) {
            String around = all.substring(edge.start(), Math.min(end, edge.end() + 60));
            Check.same("a test names «" + around + "»", isNamed[edge.start()] && isNamed[edge.end() - 1], true);
        }
        Check.close();
    }

    private static String plain(String text) {
        return text.replaceAll("\\s+", " ");
    }

    private static String words(String quoted) {
        StringBuilder s = new StringBuilder();
        Matcher m = Pattern.compile("\"((?:[^\"\\\\]|\\\\.)*)\"").matcher(quoted);
        while (m.find()) {
            s.append(m.group(1));
        }
        return s.toString();
    }

    private static void name(String all, boolean[] isNamed, String words) {
        int at = all.indexOf(words);
        Check.same("the document says «" + words + "»", at >= 0, true);
        while (at >= 0) {
            for (int i = at; i < at + words.length(); i++) {
                isNamed[i] = true;
            }
            at = all.indexOf(words, at + 1);
        }
    }
}
