/** Counts checks; a check that fails is printed with the promise that it belongs to. */
final class Checks {
    private static int passed;
    private static int failed;

    private Checks() {
    }

    static void due(int promise, String what, long got, long want) {
        if (got == want) {
            passed++;
        } else {
            failed++;
            System.out.println("promise " + promise + ": " + what + " answered " + got + ", due is " + want);
        }
    }

    static void holds(String what, boolean isSo) {
        if (isSo) {
            passed++;
        } else {
            failed++;
            System.out.println("not so: " + what);
        }
    }

    /** Types a whole text behind what stands. */
    static void write(WhistleFlock flock, String text) {
        for (int place = 0; place < text.length(); place++) {
            flock.type(text.charAt(place));
        }
    }

    /** An object that has read the text; a text with a fault is a fault of the test. */
    static WhistleFlock told(String text) {
        WhistleFlock flock = new WhistleFlock();
        write(flock, text);
        holds("the test's own text is read: " + text, flock.read() > 0);
        return flock;
    }

    /** Answers whether all passed. */
    static boolean close() {
        System.out.println(passed + " passed, " + failed + " failed");
        return failed == 0;
    }
}
