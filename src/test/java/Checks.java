/** Counts tests: one line for each, 'ok' or 'FAILED' with what was not as due. */
final class Checks {
    private int failures = 0;
    private StringBuilder wrong = new StringBuilder();

    /** Says what a call answered and what is due. */
    void due(String what, long got, long want) {
        if (got != want) {
            wrong.append("  ").append(what).append(" answered ").append(got).append(", due is ").append(want).append('\n');
        }
    }

    void isTrue(String what, boolean holds) {
        due(what, holds ? 1 : 0, 1);
    }

    /** Ends a test: all that was due since the last one ended belongs to it. */
    void end(String test) {
        if (wrong.length() == 0) {
            System.out.println("ok " + test);
        } else {
            failures++;
            System.out.println("FAILED " + test);
            System.out.print(wrong);
            wrong = new StringBuilder();
        }
    }

    void exit() {
        System.exit(failures == 0 ? 0 : 1);
    }
}
