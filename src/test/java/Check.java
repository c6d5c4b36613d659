/** Counts the answers that are not as due and ends a test with the exit code that .ci/run reads. */
final class Check {
    private static final int MOST_SECONDS = 300;
    private static final int MOST_PRINTED = 100;
    private static int wrong = 0;
    private static int asked = 0;

    static {
        Thread watch = new Thread(Check::endWhatDoesNotEnd);
        watch.setDaemon(true);
        watch.start();
    }

    private Check() {
    }

    static void due(String what, Object got, Object want) {
        asked++;
        if (!got.equals(want)) {
            wrong++;
            print(what + ": answered " + got + ", due is " + want);
        }
    }

    /** One fault can make thousands of answers wrong; the first ones tell it. */
    private static void print(String line) {
        if (wrong <= MOST_PRINTED) {
            System.out.println(line);
        }
    }

    static void end() {
        System.out.println(asked + " answers, " + wrong + " not as due");
        if (wrong != 0 || asked == 0) {
            System.exit(1);
        }
    }

    /** A call that fails to end must fail the test, too; the tests need a few seconds each. */
    private static void endWhatDoesNotEnd() {
        try {
            Thread.sleep(1000L * MOST_SECONDS);
        } catch (InterruptedException e) {
            Thread.currentThread().interrupt();
        }
        System.out.println("not at its end after " + MOST_SECONDS + " seconds");
        Runtime.getRuntime().halt(1);
    }
}
