import java.io.File;
import java.io.IOException;
import java.lang.reflect.Method;
import java.nio.file.Files;
import java.nio.file.Path;
import java.util.List;
import java.util.regex.Matcher;
import java.util.regex.Pattern;

/** README.md: its calls are made in their order, and each has to answer what it says there. */
public final class ReadmeTest {
    private static final Path PAGE = Path.of("README.md");
    private static final File TESTS = new File("src/test/java");
    private static final String[] CONSTANTS = {"NONE", "BAD_INDEX", "BAD_VALUE", "BAD_STATE", "FULL"};
    private static final String[] RULES = {"plurality", "Borda", "Copeland", "minimax", "Schulze", "ranked pairs",
        "instant runoff", "Coombs", "Bucklin", "Black", "Nanson", "Kemeny"};
    private static final Pattern CALL = Pattern.compile("votes\\.(\\w+)\\((.*?)\\); +// ([-\\w]+)(?:: .*)?");

    public static void main(String[] args) throws IOException, ReflectiveOperationException {
        List<String> lines = Files.readAllLines(PAGE);
        callsAnswerWhatIsSaid(lines);
        String page = String.join("\n", lines);
        constantsAreTold(page);
        rulesAreTold(page);
        testsAreTold(page);
        Check.finish();
    }

    private static void callsAnswerWhatIsSaid(List<String> lines) throws ReflectiveOperationException {
        RankedVotes votes = null;
        boolean code = false;
        int calls = 0;
        for (String line : lines) {
            if (line.startsWith("```")) {
                code = line.equals("```java");
            } else if (code && line.equals("RankedVotes votes = new RankedVotes();")) {
                votes = new RankedVotes();
            } else if (code) {
                Matcher call = CALL.matcher(line);
                boolean told = call.matches() && votes != null;
                Check.due("a call with its answer: " + line, told ? 1 : 0, 1);
                if (told) {
                    Check.due(line, words(answer(votes, call.group(1), call.group(2))), call.group(3));
                    calls++;
                }
            }
        }
        Check.due("calls on the page", calls >= 30 ? 1 : 0, 1);
    }

    private static int answer(RankedVotes votes, String name, String list)
        throws ReflectiveOperationException {
        String[] written = list.isEmpty() ? new String[0] : list.split(", ");
        for (Method method : RankedVotes.class.getMethods()) {
            if (method.getName().equals(name) && method.getParameterCount() == written.length) {
                Object[] values = new Object[written.length];
                for (int i = 0; i < values.length; i++) {
                    values[i] = argument(written[i]);
                }
                return (Integer) method.invoke(votes, values);
            }
        }
        throw new IllegalArgumentException("no method " + name + " of " + written.length + " arguments");
    }

    private static Object argument(String written) {
        if (written.equals("true") || written.equals("false")) {
            return Boolean.valueOf(written);
        }
        if (written.matches("'.'")) {
            return (int) written.charAt(1);
        }
        return Integer.valueOf(written);
    }

    /** As the page writes an answer: a constant by its name. */
    private static String words(int answer) throws ReflectiveOperationException {
        for (String name : CONSTANTS) {
            if (constant(name) == answer) {
                return name;
            }
        }
        return Integer.toString(answer);
    }

    private static int constant(String name) throws ReflectiveOperationException {
        return RankedVotes.class.getField(name).getInt(null);
    }

    private static void constantsAreTold(String page) throws ReflectiveOperationException {
        for (String name : CONSTANTS) {
            String row = "\n| `" + name + "` | " + constant(name) + " | ";
            Check.due("a row of " + name, page.contains(row) ? 1 : 0, 1);
        }
    }

    private static void rulesAreTold(String page) {
        for (int rule = 0; rule < RULES.length; rule++) {
            Check.due("rule " + rule, page.contains("| " + rule + " | " + RULES[rule] + " |") ? 1 : 0, 1);
        }
    }

    private static void testsAreTold(String page) throws IOException {
        Check.due("how to run the tests", page.contains("\n    .ci/run\n") ? 1 : 0, 1);
        String[] files = TESTS.list();
        if (files == null) {
            throw new IOException("no folder " + TESTS);
        }
        for (String file : files) {
            if (file.endsWith("Test.java")) {
                String name = file.substring(0, file.length() - ".java".length());
                Check.due("a row of " + name, Pattern.compile("\\b" + name + "\\b").matcher(page).find() ? 1 : 0, 1);
            }
        }
    }
}
