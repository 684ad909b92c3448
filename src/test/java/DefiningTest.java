/** Promises 1 to 6: a new object, extend, define, need, configure, key. */
public final class DefiningTest {
    private static final Checks CHECKS = new Checks("DefiningTest");
    private static final int[] NO_TYPES = {-1, 6, Integer.MIN_VALUE, Integer.MAX_VALUE};

    public static void main(String[] args) {
        promise1NewObject();
        promise1Capacity();
        promise2Extend();
        promise2IsReachesThroughLaterLinks();
        promise2RefusedChangesNothing();
        promise3Define();
        promise3RefusedOnceConfigured();
        promise4Need();
        promise4RefusedChangesNothing();
        promise5Configure();
        promise5Parents();
        promise5NumbersThatAreNoDefinitions();
        promise5Profiles();
        promise6Key();
        promise6KeyOfParents();
        CHECKS.end();
    }

    private static void promise1NewObject() {
        BeanContexts x = new BeanContexts(4);
        CHECKS.due("events()", x.events(), 0);
        CHECKS.due("event(0)", x.event(0), -1);
        CHECKS.dueCached("on a new object", x);
        CHECKS.due("key(0)", x.key(0), -1);
        CHECKS.due("request(0)", x.request(0), -1);
        CHECKS.due("failures(0)", x.failures(0), -1);
        CHECKS.due("dirty(0)", x.dirty(0), -1);
        CHECKS.due("reset(0)", x.reset(0), -1);
        CHECKS.due("get(0, 0, 0, 0)", x.get(0, 0, 0, 0), -1);
        CHECKS.due("definition(0)", x.definition(0), -1);
        CHECKS.due("wired(0, 0)", x.wired(0, 0), -1);
        CHECKS.due("call(0, 0)", x.call(0, 0), 4294967296L);
        CHECKS.due("recorded(0, 0)", x.recorded(0, 0), 4294967296L);
        CHECKS.due("stub(0, 0)", x.stub(0, 0), false);
        CHECKS.due("need(0, 0, 0, 0)", x.need(0, 0, 0, 0), false);
        CHECKS.due("shutdown()", x.shutdown(), 0);
    }

    private static void promise1Capacity() {
        int[][] rows = {
            {Integer.MIN_VALUE, 3}, {-1, 3}, {0, 3}, {2, 3}, {3, 3}, {4, 4}, {5, 5}, {6, 6}, {7, 6},
            {Integer.MAX_VALUE, 6},
        };
        for (int[] row : rows) {
            BeanContexts x = new BeanContexts(row[0]);
            for (int i = 0; i < 8; i++) {
                x.define(0, 2, 0, 0);
            }
            for (int i = 0; i < 8; i++) {
                x.configure(1 << i, 0, -1, 0);
                x.request(i);
            }
            CHECKS.due("cached(last) with capacity " + row[0], x.cached(row[1] - 1), 8 - row[1]);
            CHECKS.due("cached(behind) with capacity " + row[0], x.cached(row[1]), -1);
        }
    }

    private static void promise2Extend() {
        BeanContexts x = new BeanContexts(3);
        CHECKS.due("extend(1, 0)", x.extend(1, 0), true);
        CHECKS.due("extend(1, 0) again", x.extend(1, 0), false);
        CHECKS.due("extend(0, 1), the reverse", x.extend(0, 1), false);
        CHECKS.due("extend(2, 1)", x.extend(2, 1), true);
        CHECKS.due("extend(2, 0), which it is already", x.extend(2, 0), false);
        CHECKS.due("extend(0, 2), a circle", x.extend(0, 2), false);
        CHECKS.due("extend(2, 5), a second one", x.extend(2, 5), true);
        CHECKS.due("extend(5, 0)", x.extend(5, 0), true);
        CHECKS.due("extend(0, 5)", x.extend(0, 5), false);
        CHECKS.due("extend(3, 2), two ways to 0", x.extend(3, 2), true);
        CHECKS.due("extend(3, 5)", x.extend(3, 5), false);
        for (int type = 0; type < 6; type++) {
            CHECKS.due("extend(itself)", x.extend(type, type), false);
        }
        for (int none : NO_TYPES) {
            CHECKS.due("extend(" + none + ", 4)", x.extend(none, 4), false);
            CHECKS.due("extend(4, " + none + ")", x.extend(4, none), false);
        }
        CHECKS.due("extend(4, 3) before a configuration", x.extend(4, 3), true);
        BeanContexts y = new BeanContexts(3);
        y.configure(0, 0, -1, 0);
        CHECKS.due("extend(1, 0) with a configuration", y.extend(1, 0), false);
    }

    private static void promise2IsReachesThroughLaterLinks() {
        BeanContexts x = new BeanContexts(3);
        x.extend(3, 2);
        x.extend(1, 0);
        CHECKS.due("extend(2, 1), joining two chains", x.extend(2, 1), true);
        CHECKS.due("extend(3, 0)", x.extend(3, 0), false);
        CHECKS.due("extend(0, 3)", x.extend(0, 3), false);
        x.define(3, 0, 0, 0);
        x.configure(1, 0, -1, 0);
        x.request(0);
        for (int type = 0; type < 4; type++) {
            CHECKS.due("get of type " + type, x.get(0, type, 0, -1), 0);
        }
        CHECKS.due("get of type 4", x.get(0, 4, 0, -1), -3);
    }

    private static void promise2RefusedChangesNothing() {
        BeanContexts x = new BeanContexts(3);
        x.extend(1, 0);
        x.extend(0, 1);
        x.define(0, 0, 0, 0);
        x.configure(1, 0, -1, 0);
        x.extend(0, 2);
        x.request(0);
        CHECKS.due("get of type 0", x.get(0, 0, 0, -1), 0);
        CHECKS.due("get of type 1", x.get(0, 1, 0, -1), -3);
        CHECKS.due("get of type 2", x.get(0, 2, 0, -1), -3);
    }

    private static void promise3Define() {
        BeanContexts x = new BeanContexts(3);
        for (int none : NO_TYPES) {
            CHECKS.due("define with type " + none, x.define(none, 0, 0, 0), -1);
        }
        for (int none : new int[] {-1, 16, 32, Integer.MIN_VALUE, Integer.MAX_VALUE}) {
            CHECKS.due("define with flags " + none, x.define(0, none, 0, 0), -1);
        }
        for (int none : new int[] {-1, 4, Integer.MIN_VALUE, Integer.MAX_VALUE}) {
            CHECKS.due("define with qualifier " + none, x.define(0, 0, none, 0), -1);
            CHECKS.due("define with profile " + none, x.define(0, 0, 0, none), -1);
        }
        CHECKS.due("define(5, 15, 3, 3)", x.define(5, 15, 3, 3), 0);
        CHECKS.due("define(0, 0, 0, 0)", x.define(0, 0, 0, 0), 1);
        for (int i = 2; i < 10; i++) {
            CHECKS.due("define number " + i, x.define(0, i, 0, 0), i);
        }
        CHECKS.due("define an eleventh", x.define(0, 0, 0, 0), -1);
    }

    private static void promise3RefusedOnceConfigured() {
        BeanContexts x = new BeanContexts(3);
        x.define(0, 0, 0, 0);
        CHECKS.due("a configuration that is refused", x.configure(1, 4, -1, 0), -1);
        CHECKS.due("define behind it", x.define(0, 0, 0, 0), 1);
        x.configure(0, 0, -1, 0);
        CHECKS.due("define with a configuration", x.define(0, 0, 0, 0), -1);
        CHECKS.due("need with a configuration", x.need(0, 0, 0, 0), false);
    }

    private static void promise4Need() {
        BeanContexts x = new BeanContexts(3);
        x.define(0, 0, 0, 0);
        for (int none : new int[] {-1, 1, 10, Integer.MIN_VALUE, Integer.MAX_VALUE}) {
            CHECKS.due("need of definition " + none, x.need(none, 0, 0, 0), false);
        }
        for (int none : NO_TYPES) {
            CHECKS.due("need of type " + none, x.need(0, none, 0, 0), false);
        }
        for (int none : new int[] {-1, 4, Integer.MIN_VALUE, Integer.MAX_VALUE}) {
            CHECKS.due("need with qualifier " + none, x.need(0, 0, none, 0), false);
        }
        for (int none : new int[] {-2, 10, Integer.MIN_VALUE, Integer.MAX_VALUE}) {
            CHECKS.due("need with name " + none, x.need(0, 0, 0, none), false);
        }
        CHECKS.due("need(0, 5, 3, 9)", x.need(0, 5, 3, 9), true);
        CHECKS.due("need(0, 5, 3, 9), the same again", x.need(0, 5, 3, 9), true);
        CHECKS.due("need(0, 0, 0, -1)", x.need(0, 0, 0, -1), true);
        CHECKS.due("a fourth need", x.need(0, 0, 0, -1), false);
        x.define(0, 0, 0, 0);
        CHECKS.due("a need of another definition", x.need(1, 0, 0, 0), true);
    }

    private static void promise4RefusedChangesNothing() {
        BeanContexts x = new BeanContexts(3);
        x.define(0, 0, 0, 0);
        x.define(1, 0, 1, 0);
        x.define(1, 0, 2, 0);
        x.need(0, 1, 2, -1);
        x.need(0, 6, 0, -1);
        x.need(0, 1, 4, -1);
        x.need(0, 1, 0, 1);
        x.configure(7, 0, -1, 0);
        x.need(0, 1, 1, -1);
        CHECKS.due("request(0)", x.request(0), 0);
        CHECKS.dueEvents("after the build", x, 0, 66, 65, 64, 128);
        CHECKS.due("wired(2, 0)", x.wired(2, 0), 0);
        CHECKS.due("wired(2, 1)", x.wired(2, 1), 1);
        CHECKS.due("wired(2, 2)", x.wired(2, 2), -1);
    }

    private static void promise5Configure() {
        BeanContexts x = new BeanContexts(3);
        for (int none : new int[] {-1, 4, Integer.MIN_VALUE, Integer.MAX_VALUE}) {
            CHECKS.due("configure with profile " + none, x.configure(0, none, -1, 0), -1);
        }
        for (int i = 0; i < 8; i++) {
            CHECKS.due("configure number " + i, x.configure(0, i % 4, -1, 0), i);
        }
        CHECKS.due("configure a ninth", x.configure(0, 0, -1, 0), -1);
        CHECKS.due("key of the ninth", x.key(8), -1);
    }

    private static void promise5Parents() {
        BeanContexts x = new BeanContexts(3);
        for (int none : new int[] {-2, 0, 1, Integer.MIN_VALUE, Integer.MAX_VALUE}) {
            CHECKS.due("configure with parent " + none, x.configure(0, 0, none, 0), -1);
        }
        CHECKS.due("the first", x.configure(0, 0, -1, 0), 0);
        CHECKS.due("its child", x.configure(0, 0, 0, 0), 1);
        CHECKS.due("its grandchild", x.configure(0, 0, 1, 0), 2);
        CHECKS.due("one below that", x.configure(0, 0, 2, 0), -1);
        CHECKS.due("another child", x.configure(0, 0, 0, 0), 3);
        CHECKS.due("another grandchild", x.configure(0, 0, 3, 0), 4);
        CHECKS.due("one below that too", x.configure(0, 0, 4, 0), -1);
        CHECKS.due("with itself for a parent", x.configure(0, 0, 5, 0), -1);
    }

    private static void promise5NumbersThatAreNoDefinitions() {
        BeanContexts x = new BeanContexts(3);
        x.define(0, 0, 0, 0);
        x.define(1, 0, 0, 0);
        x.configure(3, 0, -1, 2);
        x.configure(-1, 0, -1, -2);
        x.configure(1023, 0, -1, 6);
        x.configure(Integer.MIN_VALUE, 0, -1, -1);
        x.configure(0, 0, -1, 0);
        CHECKS.due("key of all bits", x.key(1), 0);
        CHECKS.due("key of 1023", x.key(2), 0);
        CHECKS.due("key of a bit beyond", x.key(3), 3);
        CHECKS.due("key of nothing", x.key(4), 3);
        CHECKS.due("request(1)", x.request(1), 0);
        CHECKS.dueEvents("after request(1)", x, 0, 64, 65, 128);
        CHECKS.due("definition 1 is a mock", x.stub(1, 1), true);
        CHECKS.due("definition 0 is none", x.stub(0, 1), false);
    }

    private static void promise5Profiles() {
        BeanContexts x = new BeanContexts(4);
        for (int profile = 0; profile < 4; profile++) {
            x.define(0, 0, 0, profile);
        }
        for (int profile = 0; profile < 4; profile++) {
            x.configure(15, profile, -1, 0);
        }
        int before = 0;
        x.request(0);
        CHECKS.dueEvents("of profile 0", x, before, 64, 128);
        for (int profile = 1; profile < 4; profile++) {
            before = x.events();
            x.request(profile);
            CHECKS.dueEvents("of profile " + profile, x, before, 64, 64 + profile, 128 + profile);
        }
    }

    private static void promise6Key() {
        BeanContexts x = new BeanContexts(3);
        x.define(0, 0, 0, 0);
        x.define(0, 0, 0, 1);
        x.define(0, 0, 0, 2);
        x.configure(1, 0, -1, 0);
        CHECKS.due("key(0)", x.key(0), 0);
        x.configure(7, 0, -1, 6);
        CHECKS.due("what is not in it does not count, nor its mocks", x.key(1), 0);
        x.configure(5, 1, -1, 0);
        CHECKS.due("another profile with the same in it", x.key(2), 0);
        x.configure(7, 1, -1, 0);
        CHECKS.due("more in it", x.key(3), 3);
        x.configure(7, 1, -1, 2);
        CHECKS.due("other mocks", x.key(4), 4);
        x.configure(3, 1, -1, 6);
        CHECKS.due("the same mocks in it", x.key(5), 4);
        x.configure(7, 2, -1, 0);
        CHECKS.due("other definitions in it", x.key(6), 6);
        for (int none : new int[] {-1, 7, 8, Integer.MIN_VALUE, Integer.MAX_VALUE}) {
            CHECKS.due("key(" + none + ")", x.key(none), -1);
        }
    }

    private static void promise6KeyOfParents() {
        BeanContexts x = new BeanContexts(3);
        x.define(0, 0, 0, 0);
        x.define(0, 0, 0, 1);
        x.configure(1, 0, -1, 0);
        x.configure(3, 0, -1, 0);
        x.configure(1, 0, 0, 0);
        CHECKS.due("with a parent it is another key", x.key(2), 2);
        x.configure(1, 0, 1, 0);
        CHECKS.due("parents with equal keys", x.key(3), 2);
        x.configure(1, 0, 3, 0);
        CHECKS.due("one step deeper", x.key(4), 4);
        x.configure(1, 0, 2, 0);
        CHECKS.due("grandparents with equal keys", x.key(5), 4);
        x.configure(1, 0, 1, 1);
        CHECKS.due("a child with a mock", x.key(6), 6);
        x.configure(1, 0, 6, 0);
        CHECKS.due("parents with other keys", x.key(7), 7);
    }
}
