import java.util.function.Consumer;

/** Counts tests: one has failed if an answer in it was not the one due, or if it threw. */
final class Check {
    private final String suite;
    private int passed = 0;
    private int failed = 0;
    private int wrong = 0;
    private String test = "";

    Check(String suite) {
        this.suite = suite;
    }

    void test(String name, Consumer<WhoPays> body) {
        test = name;
        wrong = 0;
        try {
            body.accept(new WhoPays());
        } catch (RuntimeException | Error thrown) {
            wrong++;
            System.out.println(suite + ": " + name + ": threw " + thrown);
        }
        if (wrong == 0) {
            passed++;
        } else {
            failed++;
        }
    }

    void due(String what, long got, long want) {
        if (got != want) {
            wrong++;
            System.out.println(suite + ": " + test + ": " + what + " answered " + got + ", due is " + want);
        }
    }

    void fraction(String what, long above, long below, long wantAbove, long wantBelow) {
        due(what + " above", above, wantAbove);
        due(what + " below", below, wantBelow);
    }

    /** The last line is read by .ci/run. */
    void end() {
        System.out.println("passed " + passed + " failed " + failed + " in " + suite);
        if (failed != 0) {
            System.exit(1);
        }
    }
}
