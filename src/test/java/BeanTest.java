/** Promises 10 to 16: get, call, stub, recorded, reset, wired, definition. */
public final class BeanTest {
    private static final Checks CHECKS = new Checks("BeanTest");
    private static final int[] NO_BEANS = {-1, 200, Integer.MIN_VALUE, Integer.MAX_VALUE};
    private static final long NO_ANSWER = 4294967296L;
    private static final int PRIMARY = 1;
    private static final int LAZY = 2;
    private static final int PROTOTYPE = 4;
    private static final int BROKEN = 8;

    public static void main(String[] args) {
        promise10WrongArguments();
        promise10Find();
        promise10FindByQualifier();
        promise10FindInParents();
        promise10OneBeanOrMany();
        promise10MockedPrototype();
        promise10WhatWasMadeStays();
        promise10Circular();
        promise10CircleAcrossContexts();
        promise10LongestRow();
        promise10RowThroughThreeContexts();
        promise10DeepestRow();
        promise11Call();
        promise11CallWraps();
        promise11MockAtTheEnd();
        promise12And13StubAndRecorded();
        promise14Reset();
        promise15Wired();
        promise16Definition();
        CHECKS.end();
    }

    private static void promise10WrongArguments() {
        BeanContexts x = new BeanContexts(3);
        x.define(0, 0, 1, 0);
        x.configure(1, 0, -1, 0);
        x.configure(1, 0, 0, 0);
        CHECKS.due("get without a context", x.get(0, 0, 0, -1), -1);
        x.request(0);
        CHECKS.due("get with only the parent's context", x.get(1, 0, 0, -1), -1);
        for (int none : new int[] {-1, 2, 8, Integer.MIN_VALUE, Integer.MAX_VALUE}) {
            CHECKS.due("get of configuration " + none, x.get(none, 0, 0, -1), -1);
        }
        for (int none : new int[] {-1, 6, Integer.MIN_VALUE, Integer.MAX_VALUE}) {
            CHECKS.due("get of type " + none, x.get(0, none, 0, -1), -1);
        }
        for (int none : new int[] {-1, 4, Integer.MIN_VALUE, Integer.MAX_VALUE}) {
            CHECKS.due("get with qualifier " + none, x.get(0, 0, none, -1), -1);
        }
        for (int none : new int[] {-2, 10, 32, Integer.MIN_VALUE, Integer.MAX_VALUE}) {
            CHECKS.due("get with name " + none, x.get(0, 0, 0, none), -1);
        }
        CHECKS.due("get(0, 0, 1, 9)", x.get(0, 0, 1, 9), 0);
        CHECKS.due("events()", x.events(), 2);
    }

    private static void promise10Find() {
        BeanContexts x = new BeanContexts(3);
        x.extend(1, 0);
        x.extend(3, 2);
        x.extend(5, 4);
        x.define(0, 0, 0, 0);
        x.define(1, 0, 0, 0);
        x.define(2, 0, 0, 0);
        x.define(3, PRIMARY, 0, 0);
        x.define(4, PRIMARY, 0, 0);
        x.define(5, PRIMARY, 0, 0);
        x.configure(63, 0, -1, 0);
        x.request(0);
        CHECKS.due("one candidate", x.get(0, 1, 0, -1), 1);
        CHECKS.due("one candidate, with another's name", x.get(0, 1, 0, 0), 1);
        CHECKS.due("several, no name", x.get(0, 0, 0, -1), -4);
        CHECKS.due("several, the name of one", x.get(0, 0, 0, 0), 0);
        CHECKS.due("several, the name of the other", x.get(0, 0, 0, 1), 1);
        CHECKS.due("several, the name of none of them", x.get(0, 0, 0, 2), -4);
        CHECKS.due("several, the name of no definition", x.get(0, 0, 0, 9), -4);
        CHECKS.due("one of them primary", x.get(0, 2, 0, -1), 3);
        CHECKS.due("one of them primary, the other's name", x.get(0, 2, 0, 2), 3);
        CHECKS.due("several primary", x.get(0, 4, 0, -1), -4);
        CHECKS.due("several primary, the name of one", x.get(0, 4, 0, 5), -4);
        CHECKS.due("a primary one alone", x.get(0, 5, 0, -1), 5);
    }

    private static void promise10FindByQualifier() {
        BeanContexts x = new BeanContexts(3);
        x.define(0, PRIMARY, 0, 0);
        x.define(0, 0, 1, 0);
        x.define(0, 0, 2, 0);
        x.define(0, 0, 2, 0);
        x.define(1, 0, 3, 0);
        x.configure(31, 0, -1, 0);
        x.request(0);
        CHECKS.due("any qualifier", x.get(0, 0, 0, 1), 0);
        CHECKS.due("the only one with it", x.get(0, 0, 1, -1), 1);
        CHECKS.due("two with it", x.get(0, 0, 2, -1), -4);
        CHECKS.due("two with it, the name of one", x.get(0, 0, 2, 3), 3);
        CHECKS.due("two with it, the name of one without it", x.get(0, 0, 2, 1), -4);
        CHECKS.due("only another type has it", x.get(0, 0, 3, -1), -3);
    }

    private static void promise10FindInParents() {
        BeanContexts x = new BeanContexts(3);
        x.define(0, 0, 1, 0);
        x.define(0, 0, 2, 0);
        x.define(1, LAZY, 0, 0);
        x.define(2, LAZY, 0, 0);
        x.define(3, 0, 0, 0);
        x.need(2, 0, 0, -1);
        x.need(3, 0, 0, -1);
        x.configure(5, 0, -1, 0);
        x.configure(10, 0, 0, 0);
        x.configure(16, 0, 1, 0);
        x.request(2);
        CHECKS.due("its own", x.get(2, 3, 0, -1), 2);
        CHECKS.due("the nearest one's", x.get(2, 0, 0, -1), 1);
        CHECKS.due("the farther one's, as the nearer has not the qualifier", x.get(2, 0, 1, -1), 0);
        CHECKS.due("of nobody", x.get(2, 4, 0, -1), -3);
        CHECKS.due("a parent does not look below", x.get(1, 3, 0, -1), -3);
        CHECKS.due("the parent's own", x.get(1, 0, 0, 0), 1);
        CHECKS.due("a lazy one of the farthest", x.get(2, 1, 0, -1), 3);
        CHECKS.due("finds from its own context on", x.wired(3, 0), 0);
        CHECKS.due("it belongs there", x.get(0, 1, 0, -1), 3);
        CHECKS.due("a lazy one of the middle", x.get(2, 2, 0, -1), 4);
        CHECKS.due("finds from its own context on", x.wired(4, 0), 1);
        x.dirty(2);
        CHECKS.due("beans made in ancestors stay", x.definition(4), 3);
        x.dirty(1);
        CHECKS.due("then it is gone", x.definition(4), -1);
        CHECKS.due("and the other is not", x.definition(3), 2);
    }

    private static void promise10OneBeanOrMany() {
        BeanContexts x = new BeanContexts(3);
        x.define(0, LAZY, 0, 0);
        x.define(1, PROTOTYPE, 0, 0);
        x.define(2, LAZY + PROTOTYPE, 0, 0);
        x.configure(7, 0, -1, 0);
        x.configure(7, 0, 0, 0);
        x.request(1);
        CHECKS.due("a lazy one", x.get(0, 0, 0, -1), 0);
        CHECKS.due("the same", x.get(0, 0, 0, -1), 0);
        CHECKS.due("another context, another bean", x.get(1, 0, 0, -1), 1);
        CHECKS.due("the same", x.get(1, 0, 0, -1), 1);
        CHECKS.due("a prototype", x.get(0, 1, 0, -1), 2);
        CHECKS.due("a new one", x.get(0, 1, 0, -1), 3);
        CHECKS.due("a lazy prototype", x.get(0, 2, 0, -1), 4);
        CHECKS.due("a new one", x.get(0, 2, 0, -1), 5);
        CHECKS.dueEvents("after all", x, 2, 64, 64, 65, 65, 66, 66);
    }

    private static void promise10MockedPrototype() {
        BeanContexts x = new BeanContexts(3);
        x.define(0, PROTOTYPE + BROKEN, 0, 0);
        x.need(0, 5, 0, -1);
        x.define(1, 0, 0, 0);
        x.need(1, 0, 0, -1);
        x.need(1, 0, 0, -1);
        x.configure(3, 0, -1, 1);
        x.request(0);
        CHECKS.dueEvents("a mock needs nothing", x, 0, 64, 65, 128);
        CHECKS.due("get", x.get(0, 0, 0, -1), 0);
        CHECKS.due("the same", x.get(0, 0, 0, -1), 0);
        CHECKS.due("wired(1, 0)", x.wired(1, 0), 0);
        CHECKS.due("wired(1, 1)", x.wired(1, 1), 0);
        x.dirty(0);
        CHECKS.dueEvents("the mock is destroyed", x, 3, 257, 256, 320);
    }

    private static void promise10WhatWasMadeStays() {
        BeanContexts x = new BeanContexts(3);
        x.define(0, LAZY, 0, 0);
        x.need(0, 1, 0, -1);
        x.need(0, 2, 0, -1);
        x.need(0, 3, 0, -1);
        x.define(1, LAZY, 0, 0);
        x.define(2, LAZY + BROKEN, 0, 0);
        x.need(2, 3, 0, -1);
        x.define(3, PROTOTYPE, 0, 0);
        x.configure(15, 0, -1, 0);
        x.request(0);
        CHECKS.due("get", x.get(0, 0, 0, -1), -6);
        CHECKS.dueEvents("broken behind its needs, none behind it", x, 1, 65, 67);
        CHECKS.due("get again", x.get(0, 0, 0, -1), -6);
        CHECKS.dueEvents("one bean of 1, another of 3", x, 3, 67);
        CHECKS.due("get of what stays", x.get(0, 1, 0, -1), 0);
        CHECKS.due("the prototype lives", x.definition(1), 3);
        CHECKS.due("failures(0)", x.failures(0), 0);
    }

    private static void promise10Circular() {
        BeanContexts x = new BeanContexts(3);
        x.define(0, PROTOTYPE, 0, 0);
        x.need(0, 2, 0, -1);
        x.need(0, 1, 0, -1);
        x.define(1, LAZY, 0, 0);
        x.need(1, 0, 0, -1);
        x.define(2, LAZY, 0, 0);
        x.configure(7, 0, -1, 0);
        x.configure(7, 0, -1, 2);
        x.request(0);
        CHECKS.due("a circle from a prototype", x.get(0, 0, 0, -1), -5);
        CHECKS.due("a circle from a lazy one", x.get(0, 1, 0, -1), -5);
        CHECKS.due("again", x.get(0, 0, 0, -1), -5);
        CHECKS.dueEvents("only the other need was made", x, 1, 66);
        x.request(1);
        CHECKS.due("a mock breaks the circle", x.get(1, 0, 0, -1), 3);
        CHECKS.due("wired(3, 0)", x.wired(3, 0), 2);
        CHECKS.due("wired(3, 1)", x.wired(3, 1), 1);
        BeanContexts y = new BeanContexts(3);
        y.define(0, LAZY, 0, 0);
        y.need(0, 1, 0, -1);
        y.need(0, 0, 0, -1);
        y.define(1, PROTOTYPE, 0, 0);
        y.configure(3, 0, -1, 0);
        y.request(0);
        CHECKS.due("a definition that needs itself", y.get(0, 0, 0, -1), -5);
        CHECKS.dueEvents("the circle is seen at its first turn", y, 1, 65);
    }

    private static void promise10CircleAcrossContexts() {
        BeanContexts x = new BeanContexts(3);
        x.define(0, LAZY, 0, 0);
        x.need(0, 1, 0, -1);
        x.define(1, LAZY, 0, 0);
        x.define(2, LAZY, 1, 0);
        x.extend(2, 1);
        x.need(2, 0, 0, -1);
        x.configure(3, 0, -1, 0);
        x.configure(5, 0, 0, 0);
        x.configure(4, 0, 0, 0);
        x.request(1);
        x.request(2);
        CHECKS.due("a circle within the child", x.get(1, 0, 0, -1), -5);
        CHECKS.due("no circle through the parent", x.get(2, 2, 0, -1), 2);
        CHECKS.due("call", x.call(2, 0), 5);
    }

    /** All ten definitions in a row, each needing the next one: deep, but no circle. */
    private static void promise10LongestRow() {
        BeanContexts x = new BeanContexts(3);
        for (int type = 0; type < 5; type++) {
            x.define(type, LAZY, 1, 0);
            x.define(type, LAZY, 2, 0);
        }
        for (int i = 1; i < 10; i++) {
            x.need(i - 1, i / 2, 1 + i % 2, -1);
        }
        x.configure(1023, 0, -1, 0);
        x.request(0);
        CHECKS.due("the first of the row", x.get(0, 0, 1, -1), 9);
        CHECKS.due("its call", x.call(9, 0), 54);
        CHECKS.due("the last of the row", x.get(0, 4, 2, -1), 0);
    }

    /** The same definitions stand in three contexts, and the row goes through each of them. */
    private static void promise10RowThroughThreeContexts() {
        BeanContexts x = new BeanContexts(3);
        x.define(0, LAZY, 0, 0);
        x.define(1, LAZY, 0, 0);
        x.define(1, LAZY + PRIMARY, 0, 1);
        x.define(2, LAZY, 0, 2);
        x.define(2, LAZY + PRIMARY, 0, 1);
        x.define(3, LAZY, 0, 1);
        x.need(0, 1, 0, -1);
        x.need(1, 2, 0, -1);
        x.need(3, 0, 0, -1);
        x.need(4, 0, 0, -1);
        x.configure(7, 1, -1, 0);
        x.configure(19, 1, 0, 0);
        x.configure(3, 1, 1, 0);
        x.request(2);
        CHECKS.due("0 and 1 of the child, then the middle one's circle", x.get(2, 0, 0, -1), -5);
        CHECKS.due("0 of the farthest needs its primary 2", x.get(0, 0, 0, -1), 1);
        CHECKS.due("wired(1, 0)", x.wired(1, 0), 0);
        CHECKS.due("definition(0)", x.definition(0), 2);
        CHECKS.due("events()", x.events(), 5);
        BeanContexts y = new BeanContexts(3);
        y.define(0, LAZY, 0, 0);
        y.define(1, LAZY, 0, 1);
        y.define(1, LAZY, 0, 2);
        y.define(1, LAZY, 0, 3);
        y.define(2, LAZY, 0, 1);
        y.define(3, LAZY, 0, 2);
        y.need(0, 1, 0, -1);
        y.need(1, 2, 0, -1);
        y.need(2, 3, 0, -1);
        y.need(5, 0, 0, -1);
        y.configure(9, 3, -1, 0);
        y.configure(32, 2, 0, 0);
        y.configure(5, 2, 1, 0);
        y.request(2);
        CHECKS.due("0 of the child, 2, 5 of its parent, 0 of the farthest, 3", y.get(2, 0, 0, -1), 4);
        CHECKS.due("call", y.call(4, 0), 0 + 2 + 5 + 0 + 3 + 4);
        for (int bean = 0; bean < 5; bean++) {
            CHECKS.due("definition(" + bean + ")", y.definition(bean), new int[] {3, 0, 5, 2, 0}[bean]);
        }
        y.dirty(2);
        CHECKS.due("of the child", y.definition(3), -1);
        CHECKS.due("of the parent", y.definition(2), 5);
        y.dirty(1);
        CHECKS.due("of the parent", y.definition(2), -1);
        CHECKS.due("of the farthest", y.definition(1), 0);
    }

    /** Twenty beans are being made at once: 0 to 4 in each context, and what leads on to the next one. */
    private static void promise10DeepestRow() {
        BeanContexts x = new BeanContexts(3);
        int[][] rows = {
            {0, 1}, {0, 2}, {0, 3}, {1, 1}, {1, 2}, {3, 0}, {3, 0}, {3, 0}, {4, 0}, {5, 0},
        };
        for (int[] row : rows) {
            x.define(row[0], LAZY, row[1], 0);
        }
        for (int i = 0; i < 4; i++) {
            x.need(i, rows[i + 1][0], rows[i + 1][1], -1);
        }
        x.need(4, 3, 0, -1);
        x.need(5, 4, 0, -1);
        x.need(8, 0, 1, -1);
        x.need(6, 5, 0, -1);
        x.need(9, 0, 1, -1);
        x.configure(31 + 128 + 512, 0, -1, 0);
        x.configure(31 + 64 + 256, 0, 0, 0);
        x.configure(31 + 32, 0, 1, 0);
        x.request(2);
        CHECKS.due("the first of twenty", x.get(2, 0, 1, -1), 19);
        int[] made = {7, 4, 3, 2, 1, 0, 9, 6, 4, 3, 2, 1, 0, 8, 5, 4, 3, 2, 1, 0};
        for (int bean = 0; bean < 20; bean++) {
            CHECKS.due("definition(" + bean + ")", x.definition(bean), made[bean]);
            CHECKS.due("wired(" + bean + ", 0)", x.wired(bean, 0), bean - 1);
        }
        CHECKS.due("call(19, 100)", x.call(19, 100), 184);
    }

    private static void promise11Call() {
        BeanContexts x = new BeanContexts(3);
        x.define(0, 0, 0, 0);
        x.define(1, 0, 0, 0);
        x.define(2, PROTOTYPE, 0, 0);
        x.define(3, 0, 0, 0);
        x.need(1, 0, 0, -1);
        x.need(2, 1, 0, -1);
        x.need(2, 0, 0, -1);
        x.need(3, 2, 0, -1);
        x.configure(15, 0, -1, 0);
        x.request(0);
        CHECKS.due("without needs", x.call(0, 40), 40);
        CHECKS.due("with one need", x.call(1, 40), 42);
        CHECKS.due("the first need alone counts", x.call(2, 40), 45);
        CHECKS.due("three steps", x.call(3, 40), 49);
        CHECKS.due("a negative x", x.call(3, -100), -91);
        for (int none : NO_BEANS) {
            CHECKS.due("call(" + none + ", 0)", x.call(none, 0), NO_ANSWER);
        }
        CHECKS.due("call(4, 0)", x.call(4, 0), NO_ANSWER);
        x.dirty(0);
        CHECKS.due("call of one that is gone", x.call(0, 0), NO_ANSWER);
        CHECKS.due("call of a prototype that is gone", x.call(2, 0), NO_ANSWER);
    }

    private static void promise11CallWraps() {
        BeanContexts x = new BeanContexts(3);
        x.define(0, 0, 0, 0);
        x.define(1, 0, 0, 0);
        x.need(1, 0, 0, -1);
        x.configure(3, 0, -1, 0);
        x.configure(3, 0, -1, 1);
        x.request(0);
        x.request(1);
        CHECKS.due("no wrap", x.call(0, Integer.MAX_VALUE), Integer.MAX_VALUE);
        CHECKS.due("x + 1 wraps", x.call(1, Integer.MAX_VALUE), Integer.MIN_VALUE + 1L);
        CHECKS.due("the sum wraps", x.call(1, Integer.MAX_VALUE - 1), Integer.MIN_VALUE);
        CHECKS.due("wraps with a mock", x.stub(2, Integer.MAX_VALUE), true);
        CHECKS.due("the sum wraps", x.call(3, Integer.MAX_VALUE), Integer.MIN_VALUE);
        CHECKS.due("the last has wrapped", x.recorded(2, 1), Integer.MIN_VALUE);
        CHECKS.due("a negative answer", x.stub(2, -1), true);
        CHECKS.due("call(2, 0)", x.call(2, 0), -1);
    }

    private static void promise11MockAtTheEnd() {
        BeanContexts x = new BeanContexts(3);
        x.define(0, 0, 0, 0);
        x.define(1, 0, 0, 0);
        x.define(2, 0, 0, 0);
        x.need(1, 0, 0, -1);
        x.need(2, 1, 0, -1);
        x.configure(3, 0, -1, 1);
        x.configure(4, 0, 0, 0);
        x.request(1);
        x.stub(0, 1000);
        CHECKS.due("through two contexts", x.call(2, 7), 1003);
        CHECKS.due("count", x.recorded(0, 0), 1);
        CHECKS.due("last", x.recorded(0, 1), 9);
        CHECKS.due("the mock itself", x.call(0, -7), 1000);
        CHECKS.due("count", x.recorded(0, 0), 2);
        CHECKS.due("last", x.recorded(0, 1), -7);
        x.dirty(1);
        CHECKS.due("the mock of the parent stays", x.recorded(0, 0), 2);
    }

    private static void promise12And13StubAndRecorded() {
        BeanContexts x = new BeanContexts(3);
        x.define(0, 0, 0, 0);
        x.define(1, 0, 0, 0);
        x.configure(3, 0, -1, 1);
        x.request(0);
        CHECKS.due("a mock answers 0 at first", x.call(0, 5), 0);
        CHECKS.due("recorded(0, 0)", x.recorded(0, 0), 1);
        CHECKS.due("recorded(0, 1)", x.recorded(0, 1), 5);
        CHECKS.due("stub(0, 77)", x.stub(0, 77), true);
        CHECKS.due("stub does not count", x.recorded(0, 0), 1);
        CHECKS.due("nor change the last", x.recorded(0, 1), 5);
        CHECKS.due("call(0, 6)", x.call(0, 6), 77);
        CHECKS.due("stub(0, 78)", x.stub(0, 78), true);
        CHECKS.due("call(0, -8)", x.call(0, -8), 78);
        CHECKS.due("recorded(0, 0)", x.recorded(0, 0), 3);
        CHECKS.due("recorded(0, 1)", x.recorded(0, 1), -8);
        for (int none : new int[] {-1, 2, Integer.MIN_VALUE, Integer.MAX_VALUE}) {
            CHECKS.due("recorded(0, " + none + ")", x.recorded(0, none), NO_ANSWER);
        }
        for (int none : NO_BEANS) {
            CHECKS.due("stub(" + none + ", 1)", x.stub(none, 1), false);
            CHECKS.due("recorded(" + none + ", 0)", x.recorded(none, 0), NO_ANSWER);
        }
        CHECKS.due("stub of no mock", x.stub(1, 1), false);
        CHECKS.due("its call", x.call(1, 1), 2);
        CHECKS.due("recorded of no mock", x.recorded(1, 0), NO_ANSWER);
        CHECKS.due("stub of no bean", x.stub(2, 1), false);
        x.dirty(0);
        CHECKS.due("stub of a gone mock", x.stub(0, 1), false);
        CHECKS.due("recorded of a gone mock", x.recorded(0, 0), NO_ANSWER);
        x.request(0);
        CHECKS.due("the new mock is new", x.recorded(2, 0), 0);
        CHECKS.due("the new mock is new", x.call(2, 1), 0);
    }

    private static void promise14Reset() {
        BeanContexts x = new BeanContexts(6);
        x.define(0, 0, 0, 0);
        x.define(1, 0, 0, 0);
        x.configure(3, 0, -1, 3);
        x.configure(3, 0, 0, 1);
        x.configure(3, 0, 1, 2);
        x.configure(1, 0, 0, 1);
        x.configure(3, 0, -1, 0);
        CHECKS.due("reset(2), nothing cached", x.reset(2), -1);
        x.request(2);
        x.request(3);
        for (int bean = 0; bean <= 6; bean++) {
            x.stub(bean, 10 + bean);
            x.call(bean, 20 + bean);
        }
        CHECKS.due("reset of the middle one", x.reset(1), 3);
        for (int bean : new int[] {0, 1, 2}) {
            CHECKS.due("count", x.recorded(bean, 0), 0);
            CHECKS.due("last", x.recorded(bean, 1), 0);
            CHECKS.due("answer", x.call(bean, 1), 0);
        }
        CHECKS.due("below it, count", x.recorded(5, 0), 1);
        CHECKS.due("below it, last", x.recorded(5, 1), 25);
        CHECKS.due("below it, answer", x.call(5, 1), 15);
        CHECKS.due("beside it, count", x.recorded(6, 0), 1);
        CHECKS.due("reset of the farthest", x.reset(0), 2);
        CHECKS.due("the middle one is as it was", x.recorded(2, 0), 1);
        CHECKS.due("reset of the last one", x.reset(2), 4);
        CHECKS.due("its mock", x.recorded(5, 0), 0);
        CHECKS.due("beside it", x.call(6, 0), 16);
        CHECKS.due("reset(4), not cached", x.reset(4), -1);
        x.request(4);
        CHECKS.due("reset(4), without mocks", x.reset(4), 0);
        x.dirty(2);
        CHECKS.due("reset(2), no longer cached", x.reset(2), -1);
        for (int none : new int[] {-1, 5, 8, Integer.MIN_VALUE, Integer.MAX_VALUE}) {
            CHECKS.due("reset(" + none + ")", x.reset(none), -1);
        }
    }

    private static void promise15Wired() {
        BeanContexts x = new BeanContexts(3);
        x.define(0, 0, 0, 0);
        x.define(1, 0, 0, 0);
        x.define(2, PROTOTYPE, 0, 0);
        x.define(3, 0, 0, 0);
        x.need(1, 2, 0, -1);
        x.need(1, 0, 0, -1);
        x.need(1, 2, 0, -1);
        x.need(3, 0, 0, -1);
        x.configure(15, 0, -1, 8);
        x.request(0);
        CHECKS.due("wired(3, 0)", x.wired(3, 0), 1);
        CHECKS.due("wired(3, 1)", x.wired(3, 1), 0);
        CHECKS.due("wired(3, 2)", x.wired(3, 2), 2);
        for (int none : new int[] {-1, 3, Integer.MIN_VALUE, Integer.MAX_VALUE}) {
            CHECKS.due("wired(3, " + none + ")", x.wired(3, none), -1);
        }
        for (int none : NO_BEANS) {
            CHECKS.due("wired(" + none + ", 0)", x.wired(none, 0), -1);
        }
        CHECKS.due("without needs", x.wired(0, 0), -1);
        CHECKS.due("of a mock", x.wired(4, 0), -1);
        CHECKS.due("of no bean", x.wired(5, 0), -1);
        x.dirty(0);
        CHECKS.due("of one that is gone", x.wired(3, 0), -1);
    }

    private static void promise16Definition() {
        BeanContexts x = new BeanContexts(3);
        x.define(0, LAZY, 0, 0);
        x.define(1, 0, 0, 0);
        x.define(2, PROTOTYPE, 0, 0);
        x.define(3, 0, 0, 0);
        x.configure(15, 0, -1, 8);
        x.configure(0, 0, -1, 0);
        x.request(0);
        x.get(0, 2, 0, -1);
        x.get(0, 0, 0, -1);
        CHECKS.due("definition(0)", x.definition(0), 1);
        CHECKS.due("definition(1), a mock", x.definition(1), 3);
        CHECKS.due("definition(2), a prototype", x.definition(2), 2);
        CHECKS.due("definition(3), a lazy one", x.definition(3), 0);
        CHECKS.due("definition(4)", x.definition(4), -1);
        for (int none : NO_BEANS) {
            CHECKS.due("definition(" + none + ")", x.definition(none), -1);
        }
        x.dirty(0);
        for (int bean = 0; bean < 4; bean++) {
            CHECKS.due("definition of one that is gone", x.definition(bean), -1);
        }
        x.request(0);
        CHECKS.due("numbers are not used again", x.definition(4), 1);
    }
}
