/** Counts the answers of one test that are not as due. */
final class Check {
    private static final long LONGEST_MILLIS = 300_000;
    private int wrong = 0;
    private int asked = 0;
    private volatile String part = "";

    /** A call that fails to end is a fault too: the test then ends by itself. */
    Check() {
        Thread watch = new Thread(() -> {
            try {
                Thread.sleep(LONGEST_MILLIS);
            } catch (InterruptedException e) {
                return;
            }
            System.out.println(part + ": it does not end");
            Runtime.getRuntime().halt(1);
        });
        watch.setDaemon(true);
        watch.start();
    }

    void part(String name) {
        part = name;
    }

    void due(String call, long got, long want) {
        asked++;
        if (got != want) {
            wrong++;
            System.out.println(part + ": " + call + " answered " + got + ", due is " + want);
        }
    }

    void holds(String what, boolean does) {
        asked++;
        if (!does) {
            wrong++;
            System.out.println(part + ": " + what);
        }
    }

    int wrong() {
        return wrong;
    }

    /** The end of a main method. */
    void close() {
        System.out.println(asked + " looked at, " + wrong + " wrong");
        if (wrong != 0 || asked == 0) {
            System.exit(1);
        }
    }
}
