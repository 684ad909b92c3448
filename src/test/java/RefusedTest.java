import java.util.ArrayList;
import java.util.List;
import java.util.function.Consumer;
import java.util.function.Function;
import java.util.function.ToLongFunction;

/**
 * "A call that is refused changes nothing.": two objects are brought to the same state, one of them is
 * given a call that is refused; then both are asked the same things, and may not differ in any answer.
 */
public final class RefusedTest {
    private static final Checks CHECKS = new Checks("RefusedTest");
    private static final int LEAST = Integer.MIN_VALUE;
    private static final int GREATEST = Integer.MAX_VALUE;
    private static final long NO_ANSWER = 4294967296L;
    private static final int PRIMARY = 1;
    private static final int LAZY = 2;
    private static final int PROTOTYPE = 4;
    private static final int BROKEN = 8;
    /** What brings an object to its state takes fewer calls than this, so that 512 are not passed. */
    private static final int CALLS_BEFORE = 60;

    private static final List<Function<BeanContexts, List<Long>>> LOOKS =
            List.of(RefusedTest::typesShown, RefusedTest::numbersLeft, RefusedTest::useOfAll);

    private final String stateName;
    private final Consumer<BeanContexts> state;

    private RefusedTest(String stateName, Consumer<BeanContexts> state) {
        this.stateName = stateName;
        this.state = state;
    }

    public static void main(String[] args) {
        RefusedTest fresh = new RefusedTest("on a new object", x -> { });
        fresh.wrongWhateverIsThere();
        fresh.withoutAConfiguration();
        RefusedTest defined = new RefusedTest("with definitions", RefusedTest::define);
        defined.wrongWhateverIsThere();
        defined.wrongDefining();
        defined.withoutAConfiguration();
        new RefusedTest("with ten definitions", RefusedTest::defineTen).eleventhDefinition();
        RefusedTest configured = new RefusedTest("with configurations", RefusedTest::configure);
        configured.wrongWhateverIsThere();
        configured.definingTooLate();
        configured.withoutAContext();
        new RefusedTest("with eight configurations", RefusedTest::configureEight).ninthConfiguration();
        RefusedTest running = new RefusedTest("with contexts", RefusedTest::run);
        running.wrongWhateverIsThere();
        running.definingTooLate();
        running.wrongBeans();
        running.looks();
        RefusedTest down = new RefusedTest("after shutdown", RefusedTest::shutDown);
        down.wrongWhateverIsThere();
        down.definingTooLate();
        down.afterShutdown();
        CHECKS.end();
    }

    // The states

    /** Three definitions; 0 has three needs, 1 has two, 2 has none. */
    private static void define(BeanContexts x) {
        x.extend(1, 0);
        x.extend(2, 1);
        x.define(2, 0, 1, 0);
        x.define(3, PROTOTYPE, 0, 0);
        x.define(4, LAZY, 2, 0);
        x.need(0, 3, 0, -1);
        x.need(0, 3, 0, 1);
        x.need(0, 4, 2, -1);
        x.need(1, 4, 0, -1);
        x.need(1, 4, 0, 2);
    }

    private static void defineTen(BeanContexts x) {
        define(x);
        for (int i = 3; i < 10; i++) {
            x.define(5, LAZY, 0, 0);
        }
    }

    /** 0 to 2 are a row of parents with mocks, 3 breaks, 4 is a mock alone, 5 is never requested. */
    private static void configure(BeanContexts x) {
        define(x);
        x.define(5, BROKEN, 0, 1);
        x.define(0, PRIMARY, 0, 0);
        x.configure(7, 0, -1, 0);
        x.configure(7, 0, 0, 1);
        x.configure(4, 0, 1, 4);
        x.configure(15, 1, -1, 0);
        x.configure(2, 0, -1, 2);
        x.configure(16, 0, -1, 0);
    }

    private static void configureEight(BeanContexts x) {
        configure(x);
        x.configure(16, 0, -1, 16);
        x.configure(0, 0, 0, 0);
    }

    /**
     * The contexts 0 to 2 are cached. Of their beans 0 to 3 are none, 4 and 5 are mocks; 6 to 9 were
     * those of the build that has failed, 10 was a mock that is gone.
     */
    private static void run(BeanContexts x) {
        configure(x);
        x.request(2);
        x.request(3);
        x.request(4);
        x.stub(10, 44);
        x.dirty(4);
        x.request(1);
        x.stub(4, 55);
        x.call(4, 9);
        x.stub(5, 66);
        x.call(5, 8);
        x.call(5, 7);
    }

    private static void shutDown(BeanContexts x) {
        run(x);
        x.shutdown();
    }

    // What is asked of both objects behind the call

    /** What each type is, seen by one definition of each: shows what extend has done. */
    private static List<Long> typesShown(BeanContexts x) {
        List<Long> row = new ArrayList<>();
        for (int type = 0; type < 6; type++) {
            row.add((long) x.define(type, LAZY, 0, 0));
        }
        for (int type = 0; type < 6; type++) {
            long number = row.get(type);
            row.add((long) x.configure(number < 0 ? 0 : 1 << number, 0, -1, 0));
        }
        for (int c = 0; c < 6; c++) {
            row.add((long) x.request(c));
            for (int type = 0; type < 6; type++) {
                row.add((long) x.get(c, type, 0, -1));
            }
        }
        return row;
    }

    /** How many definitions, needs and configurations can still be added, and what comes of them. */
    private static List<Long> numbersLeft(BeanContexts x) {
        List<Long> row = new ArrayList<>();
        for (int i = 0; i < 11; i++) {
            row.add((long) x.define(5, LAZY, 3, 0));
        }
        for (int i = 0; i < 10; i++) {
            for (int k = 0; k < 4; k++) {
                row.add(x.need(i, 5, 3, 9) ? 1L : 0L);
            }
        }
        for (int i = 0; i < 9; i++) {
            row.add((long) x.configure(1023 >> i, 0, -1, 0));
        }
        for (int c = 0; c < 8; c++) {
            row.add((long) x.request(c));
        }
        addShown(row, x);
        return row;
    }

    /** Uses, calls, resets and closes all there is. */
    private static List<Long> useOfAll(BeanContexts x) {
        List<Long> row = new ArrayList<>();
        addShown(row, x);
        for (int bean = 0; bean < 12; bean++) {
            row.add(x.call(bean, 100));
        }
        row.add((long) x.configure(1023, 1, -1, 0));
        row.add((long) x.configure(1023, 0, -1, 7));
        for (int c = 0; c < 8; c++) {
            row.add((long) x.request(c));
            for (int type = 0; type < 6; type++) {
                row.add((long) x.get(c, type, 0, -1));
            }
        }
        addShown(row, x);
        for (int c = 0; c < 8; c++) {
            row.add((long) x.reset(c));
            row.add((long) x.dirty(c));
        }
        row.add((long) x.shutdown());
        row.add((long) x.events());
        return row;
    }

    /** All answers of the calls that only look. */
    private static void addShown(List<Long> row, BeanContexts x) {
        row.add((long) x.events());
        for (int k = 0; k < 32; k++) {
            row.add((long) x.event(k));
        }
        for (int k = 0; k < 5; k++) {
            row.add((long) x.cached(k));
        }
        for (int c = 0; c < 8; c++) {
            row.add((long) x.key(c));
            row.add((long) x.failures(c));
        }
        for (int bean = 0; bean < 12; bean++) {
            row.add((long) x.definition(bean));
            row.add(x.recorded(bean, 0));
            row.add(x.recorded(bean, 1));
            for (int k = 0; k < 3; k++) {
                row.add((long) x.wired(bean, k));
            }
        }
    }

    private void changesNothing(String call, ToLongFunction<BeanContexts> made, long answer) {
        for (int look = 0; look < LOOKS.size(); look++) {
            BeanContexts plain = new BeanContexts(4);
            BeanContexts tried = new BeanContexts(4);
            state.accept(plain);
            state.accept(tried);
            CHECKS.due(call + " " + stateName, made.applyAsLong(tried), answer);
            List<Long> due = LOOKS.get(look).apply(plain);
            List<Long> got = LOOKS.get(look).apply(tried);
            CHECKS.due("the calls stay within 512", CALLS_BEFORE + due.size() <= 512, true);
            CHECKS.due("what look " + look + " shows after " + call + " " + stateName + " is the same",
                    got.equals(due), true);
        }
    }

    private void falseAndChangesNothing(String call, Function<BeanContexts, Boolean> made) {
        changesNothing(call, x -> made.apply(x) ? 1 : 0, 0);
    }

    // The calls

    /** Arguments that are none in any state. */
    private void wrongWhateverIsThere() {
        for (int none : new int[] {-1, 6, LEAST, GREATEST}) {
            falseAndChangesNothing("extend(" + none + ", 0)", x -> x.extend(none, 0));
            falseAndChangesNothing("extend(5, " + none + ")", x -> x.extend(5, none));
            changesNothing("define(" + none + ", 0, 0, 0)", x -> x.define(none, 0, 0, 0), -1);
            falseAndChangesNothing("need(2, " + none + ", 0, 0)", x -> x.need(2, none, 0, 0));
            changesNothing("get(0, " + none + ", 0, 0)", x -> x.get(0, none, 0, 0), -1);
        }
        for (int none : new int[] {-1, 4, LEAST, GREATEST}) {
            changesNothing("define(0, 0, " + none + ", 0)", x -> x.define(0, 0, none, 0), -1);
            changesNothing("define(0, 0, 0, " + none + ")", x -> x.define(0, 0, 0, none), -1);
            falseAndChangesNothing("need(2, 0, " + none + ", 0)", x -> x.need(2, 0, none, 0));
            changesNothing("configure(1, " + none + ", -1, 0)", x -> x.configure(1, none, -1, 0), -1);
            changesNothing("get(0, 3, " + none + ", 0)", x -> x.get(0, 3, none, 0), -1);
        }
        for (int none : new int[] {-1, 16, LEAST, GREATEST}) {
            changesNothing("define(0, " + none + ", 0, 0)", x -> x.define(0, none, 0, 0), -1);
        }
        for (int none : new int[] {-2, 10, LEAST, GREATEST}) {
            falseAndChangesNothing("need(2, 0, 0, " + none + ")", x -> x.need(2, 0, 0, none));
            changesNothing("get(0, 3, 0, " + none + ")", x -> x.get(0, 3, 0, none), -1);
        }
        for (int none : new int[] {-2, 8, LEAST, GREATEST}) {
            changesNothing("configure(1, 0, " + none + ", 0)", x -> x.configure(1, 0, none, 0), -1);
        }
        noSuchConfiguration(-1, 8, LEAST, GREATEST);
        noSuchBean(-1, 200, LEAST, GREATEST);
        for (int none : new int[] {-1, 32, LEAST, GREATEST}) {
            changesNothing("event(" + none + ")", x -> x.event(none), -1);
            changesNothing("cached(" + none + ")", x -> x.cached(none), -1);
        }
    }

    private void noSuchConfiguration(int... numbers) {
        for (int none : numbers) {
            changesNothing("key(" + none + ")", x -> x.key(none), -1);
            changesNothing("request(" + none + ")", x -> x.request(none), -1);
            changesNothing("dirty(" + none + ")", x -> x.dirty(none), -1);
            changesNothing("get(" + none + ", 3, 0, -1)", x -> x.get(none, 3, 0, -1), -1);
            changesNothing("reset(" + none + ")", x -> x.reset(none), -1);
            changesNothing("failures(" + none + ")", x -> x.failures(none), -1);
        }
    }

    private void noSuchBean(int... numbers) {
        for (int none : numbers) {
            changesNothing("call(" + none + ", 5)", x -> x.call(none, 5), NO_ANSWER);
            falseAndChangesNothing("stub(" + none + ", 5)", x -> x.stub(none, 5));
            changesNothing("recorded(" + none + ", 0)", x -> x.recorded(none, 0), NO_ANSWER);
            changesNothing("recorded(" + none + ", 1)", x -> x.recorded(none, 1), NO_ANSWER);
            changesNothing("wired(" + none + ", 0)", x -> x.wired(none, 0), -1);
            changesNothing("definition(" + none + ")", x -> x.definition(none), -1);
        }
    }

    private void wrongDefining() {
        for (int type = 0; type < 6; type++) {
            int itself = type;
            falseAndChangesNothing("extend(" + type + ", itself)", x -> x.extend(itself, itself));
        }
        falseAndChangesNothing("extend(0, 1), as 1 is 0", x -> x.extend(0, 1));
        falseAndChangesNothing("extend(0, 2), as 2 is 0", x -> x.extend(0, 2));
        falseAndChangesNothing("extend(1, 0), as 1 is 0", x -> x.extend(1, 0));
        falseAndChangesNothing("extend(2, 0), as 2 is 0", x -> x.extend(2, 0));
        falseAndChangesNothing("need(3, ..), no such definition", x -> x.need(3, 0, 0, -1));
        falseAndChangesNothing("need(-1, ..), no such definition", x -> x.need(-1, 0, 0, -1));
        falseAndChangesNothing("need(0, ..), it has three", x -> x.need(0, 3, 0, -1));
    }

    private void withoutAConfiguration() {
        noSuchConfiguration(0);
        noSuchBean(0);
        changesNothing("configure(1, 0, 0, 0), with itself for a parent", x -> x.configure(1, 0, 0, 0), -1);
        changesNothing("event(0)", x -> x.event(0), -1);
        changesNothing("cached(0)", x -> x.cached(0), -1);
    }

    private void eleventhDefinition() {
        changesNothing("define(0, 0, 0, 0)", x -> x.define(0, 0, 0, 0), -1);
        falseAndChangesNothing("need(10, ..)", x -> x.need(10, 0, 0, -1));
    }

    /** What could be done, were there no configuration. */
    private void definingTooLate() {
        falseAndChangesNothing("extend(3, 0)", x -> x.extend(3, 0));
        falseAndChangesNothing("extend(4, 5)", x -> x.extend(4, 5));
        changesNothing("define(5, 0, 0, 0)", x -> x.define(5, 0, 0, 0), -1);
        falseAndChangesNothing("need(1, 4, 0, -1)", x -> x.need(1, 4, 0, -1));
        falseAndChangesNothing("need(2, 5, 0, -1)", x -> x.need(2, 5, 0, -1));
        changesNothing("configure(1, 0, 6, 0), with itself for a parent", x -> x.configure(1, 0, 6, 0), -1);
        changesNothing("configure(1, 0, 2, 0), a parent that can be none", x -> x.configure(1, 0, 2, 0), -1);
        noSuchConfiguration(6);
    }

    private void ninthConfiguration() {
        changesNothing("configure(1, 0, -1, 0)", x -> x.configure(1, 0, -1, 0), -1);
        changesNothing("configure(1, 0, 0, 0)", x -> x.configure(1, 0, 0, 0), -1);
    }

    private void withoutAContext() {
        for (int c = 0; c < 6; c++) {
            int configuration = c;
            changesNothing("get(" + c + ", 3, 0, -1)", x -> x.get(configuration, 3, 0, -1), -1);
            changesNothing("reset(" + c + ")", x -> x.reset(configuration), -1);
        }
        noSuchBean(0);
    }

    private void wrongBeans() {
        noSuchBean(6, 7, 8, 9, 10, 11);
        for (int bean : new int[] {0, 1, 2, 3}) {
            falseAndChangesNothing("stub(" + bean + ", 5), no mock", x -> x.stub(bean, 5));
            changesNothing("recorded(" + bean + ", 0), no mock", x -> x.recorded(bean, 0), NO_ANSWER);
        }
        for (int what : new int[] {-1, 2, LEAST, GREATEST}) {
            changesNothing("recorded(4, " + what + ")", x -> x.recorded(4, what), NO_ANSWER);
        }
        for (int k : new int[] {-1, 3, LEAST, GREATEST}) {
            changesNothing("wired(3, " + k + ")", x -> x.wired(3, k), -1);
        }
        changesNothing("wired(4, 0), a mock", x -> x.wired(4, 0), -1);
        for (int c : new int[] {3, 4, 5}) {
            changesNothing("get(" + c + ", 3, 0, -1), not cached", x -> x.get(c, 3, 0, -1), -1);
            changesNothing("reset(" + c + "), not cached", x -> x.reset(c), -1);
        }
    }

    /** Calls that are taken, but only look. */
    private void looks() {
        changesNothing("key(1)", x -> x.key(1), 1);
        changesNothing("failures(3)", x -> x.failures(3), 1);
        changesNothing("cached(0)", x -> x.cached(0), 1);
        changesNothing("cached(2)", x -> x.cached(2), 2);
        changesNothing("event(0)", x -> x.event(0), 324);
        changesNothing("recorded(5, 0)", x -> x.recorded(5, 0), 2);
        changesNothing("recorded(5, 1)", x -> x.recorded(5, 1), 7);
        changesNothing("wired(3, 2)", x -> x.wired(3, 2), 0);
        changesNothing("definition(2)", x -> x.definition(2), 1);
        changesNothing("dirty(5), which has no context", x -> x.dirty(5), 0);
    }

    private void afterShutdown() {
        for (int c = 0; c < 6; c++) {
            int configuration = c;
            changesNothing("request(" + c + ")", x -> x.request(configuration), -1);
            changesNothing("get(" + c + ", 3, 0, -1)", x -> x.get(configuration, 3, 0, -1), -1);
            changesNothing("reset(" + c + ")", x -> x.reset(configuration), -1);
            changesNothing("dirty(" + c + ")", x -> x.dirty(configuration), 0);
        }
        noSuchBean(0, 1, 2, 3, 4, 5, 10);
    }
}
