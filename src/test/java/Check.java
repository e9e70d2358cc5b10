import java.io.IOException;
import java.nio.file.Files;
import java.nio.file.Path;

/** Counts the answers that are not due; every test ends with finish(). */
final class Check {
    private static final Path DOCUMENT = Path.of("..", "shared", "DOC.md");

    private static int answers = 0;
    private static int wrong = 0;
    private static String sentence = "";
    private static String document = "";

    private Check() {
    }

    /**
     * The words of the document that the next answers are about. Words that the document doesn't
     * have are a fault of the test, so that what it quotes can be found there.
     */
    static void sentence(String words) {
        if (document.isEmpty()) {
            document = read();
        }
        sentence = words;
        due("the document has these words", document.contains(words) ? 1 : 0, 1);
    }

    private static String read() {
        try {
            return Files.readString(DOCUMENT).replaceAll("\\s+", " ");
        } catch (IOException e) {
            return "the document can't be read";
        }
    }

    static void due(String call, long got, long want) {
        due(call, Long.toString(got), Long.toString(want));
    }

    static void due(String call, String got, String want) {
        answers++;
        if (!got.equals(want)) {
            wrong++;
            System.out.println(call + " answered " + got + ", due is " + want
                + (sentence.isEmpty() ? "" : "; the document: \"" + sentence + "\""));
        }
    }

    static void finish() {
        if (answers == 0 || wrong != 0) {
            System.out.println(wrong + " of " + answers + " answers are not as due");
            System.exit(1);
        }
        System.out.println(answers + " answers are as due");
    }
}
