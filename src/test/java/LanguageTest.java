import java.io.IOException;
import java.nio.file.Files;
import java.nio.file.Path;
import java.util.List;
import java.util.regex.Matcher;
import java.util.regex.Pattern;

/** What of LANGUAGE.md can be seen from the words of the source; it is looked at from the project's folder. */
public final class LanguageTest {
    private static final Path SOURCE = Path.of("src", "main", "java", "RankedVotes.java");

    private static final String[] FORBIDDEN = {"throw", "throws", "try", "catch", "finally", "synchronized", "assert",
        "import", "package", "volatile", "transient", "native", "strictfp", "protected", "var", "yield", "goto",
        "Thread", "Random", "System\\.(?!arraycopy\\b)\\w+", "Object", "hashCode", "toString\\s*\\(\\s*\\)\\s*\\{",
        "double", "float", "String\\s*\\+", "Math\\.\\w+Exact", "StrictMath", "Optional", "Stream"};

    public static void main(String[] args) throws IOException {
        String code = withoutComments(Files.readString(SOURCE));
        for (String word : FORBIDDEN) {
            Check.due("uses of " + word, count(code, "(?<![\\w.])(?:" + word + ")(?!\\w)"), 0);
        }
        Check.due("lambdas and arrows", count(code, "->"), 0);
        Check.due("method references", count(code, "::"), 0);
        Check.due("static initialisers", count(code, "static\\s*\\{"), 0);
        Check.due("signs beyond 127", count(code, "[^\\x00-\\x7f]"), 0);
        Check.due("classes inside that are not static",
            count(code, "(?<!static )(?<!static final )(?<!public final )(?:class|interface|enum|record)\\s+\\w+"), 0);
        Check.due("at most twelve classes", count(code, "\\bclass\\s+\\w+") <= 12 ? 1 : 0, 1);
        Check.due("loops without a condition", count(code, "while\\s*\\(\\s*true|for\\s*\\([^;)]*;\\s*;"), 0);
        Check.due("things made behind the constructor", count(bodies(code), "\\bnew\\s"), 0);
        methodLengths(code);
        Check.finish();
    }

    /** Everything behind the constructor but the fields of the classes inside. */
    private static String bodies(String code) {
        StringBuilder bodies = new StringBuilder();
        String rest = code.substring(code.indexOf("public int addGroup"));
        for (String line : rest.split("\n")) {
            if (!line.matches("\\s+(private )?final \\S+ \\w+ = new .*;")) {
                bodies.append(line).append('\n');
            }
        }
        return bodies.toString();
    }

    private static void methodLengths(String code) {
        List<String> lines = code.lines().toList();
        int start = -1;
        for (int i = 0; i < lines.size(); i++) {
            String line = lines.get(i);
            if (line.matches("(    |        )[\\w\\[\\] ]+\\(.*\\) \\{") && !line.contains(" class ")) {
                start = i;
                Check.due("parameters in line " + (i + 1), count(line, ",") < 7 ? 1 : 0, 1);
            }
            if (start >= 0 && line.matches("(    |        )\\}")) {
                Check.due("method of more than 60 lines in line " + (start + 1), i - start < 60 ? 1 : 0, 1);
                start = -1;
            }
        }
    }

    /** Keeps the lines, so that they can be told. */
    private static String withoutComments(String source) {
        Matcher comment = Pattern.compile("/\\*.*?\\*/|//[^\n]*", Pattern.DOTALL).matcher(source);
        return comment.replaceAll(found -> found.group().replaceAll("[^\n]", ""));
    }

    private static int count(String text, String pattern) {
        Matcher found = Pattern.compile(pattern).matcher(text);
        int count = 0;
        while (found.find()) {
            count++;
        }
        return count;
    }
}
