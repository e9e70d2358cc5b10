/** Counts the answers that are not due; every test ends with finish(). */
final class Check {
    private static int answers = 0;
    private static int wrong = 0;

    private Check() {
    }

    static void due(String call, long got, long want) {
        answers++;
        if (got != want) {
            wrong++;
            System.out.println(call + " answered " + got + ", due is " + want);
        }
    }

    static void finish() {
        if (answers == 0 || wrong != 0) {
            System.out.println(wrong + " of " + answers + " answers are not as due");
            System.exit(1);
        }
        System.out.println(answers + " answers are as due");
    }
}
