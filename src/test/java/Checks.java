/** Compares answers with what is due; the tests of the project share it. */
final class Checks {
    private final String subject;
    private int checked;
    private int wrong;

    Checks(String subject) {
        this.subject = subject;
    }

    void due(String call, long got, long want) {
        checked++;
        if (got != want) {
            wrong++;
            System.out.println(subject + ": " + call + " answered " + got + ", due is " + want);
        }
    }

    void due(String call, boolean got, boolean want) {
        due(call, got ? 1L : 0L, want ? 1L : 0L);
    }

    /** The events since an earlier count, the oldest first, at most 32 of them. */
    void dueEvents(String after, BeanContexts x, int before, int... want) {
        due("events() " + after, x.events() - before, want.length);
        for (int i = 0; i < want.length; i++) {
            due("event " + i + " " + after, x.event(want.length - 1 - i), want[i]);
        }
    }

    /** The cached contexts, the latest used first, and none behind them. */
    void dueCached(String after, BeanContexts x, int... want) {
        for (int k = 0; k < want.length; k++) {
            due("cached(" + k + ") " + after, x.cached(k), want[k]);
        }
        due("cached(" + want.length + ") " + after, x.cached(want.length), -1);
    }

    void end() {
        System.out.println(subject + ": " + checked + " checked, " + wrong + " wrong");
        if (wrong != 0) {
            System.exit(1);
        }
    }
}
