/** Counts the answers of a test, and prints each that is not the one that is due. */
final class Dues {
    private final String test;
    private int passed = 0;
    private int failed = 0;

    Dues(String test) {
        this.test = test;
    }

    void due(int promise, String call, long got, long want) {
        if (got == want) {
            passed++;
        } else {
            failed++;
            System.out.println("promise " + promise + ": " + call + " answered " + got + ", due is " + want);
        }
    }

    /** An answer together with the STATUS behind it. */
    void due(int promise, ChalkRoom x, String call, long got, long want, int status) {
        due(promise, call, got, want);
        due(promise, "status() behind " + call, x.status(), status);
    }

    void due(int promise, ChalkRoom x, String call, boolean got, boolean want, int status) {
        due(promise, x, call, got ? 1 : 0, want ? 1 : 0, status);
    }

    void due(int promise, String what, String got, String want) {
        if (got.equals(want)) {
            passed++;
        } else {
            failed++;
            System.out.println("promise " + promise + ": " + what + "\n  got " + got + "\n  due " + want);
        }
    }

    void end() {
        System.out.println(test + ": " + passed + " passed, " + failed + " failed");
        if (failed > 0) {
            System.exit(1);
        }
    }
}
