/** Counts the answers that are not the ones that are due, and prints them; a test that does not end fails, too. */
final class Check {
    private static final long LONGEST_MILLIS = 300_000L;

    private int wrong = 0;
    private int asked = 0;

    Check() {
        Thread watch = new Thread(Check::failWhenTooLong);
        watch.setDaemon(true);
        watch.start();
    }

    private static void failWhenTooLong() {
        try {
            Thread.sleep(LONGEST_MILLIS);
        } catch (InterruptedException e) {
            return;
        }
        System.out.println("a call did not end, or the test takes far too long");
        Runtime.getRuntime().halt(1);
    }

    void due(String call, long got, long want) {
        asked++;
        if (got != want) {
            wrong++;
            if (wrong <= 40) {
                System.out.println(call + " answered " + got + ", due is " + want);
            }
        }
    }

    void isTrue(String what, boolean is) {
        due(what, is ? 1 : 0, 1);
    }

    void end(String name) {
        System.out.println(name + ": " + asked + " answers, " + wrong + " wrong");
        if (wrong != 0) {
            System.exit(1);
        }
    }
}
