/** Promises 7 to 9 and 17 to 20: request, dirty, shutdown, cached, failures, events, event. */
public final class ContextTest {
    private static final Checks CHECKS = new Checks("ContextTest");
    private static final int[] NO_CONFIGURATIONS = {-1, 1, 8, Integer.MIN_VALUE, Integer.MAX_VALUE};
    private static final int LAZY = 2;
    private static final int PROTOTYPE = 4;
    private static final int BROKEN = 8;

    public static void main(String[] args) {
        promise7WrongConfigurations();
        promise7WhatABuildMakes();
        promise7Codes();
        promise7FailedBuildIsTakenBack();
        promise7WhatWasMadeInTheParentStays();
        promise7RefusedAfterTwoFailures();
        promise7ParentAnswersACode();
        promise7ThirtyBuilds();
        promise7LimitComesBehindTheParent();
        promise7LeastRecentlyUsedGivesWay();
        promise7AncestorsDoNotGiveWay();
        promise7DisplacedParentTakesItsChildren();
        promise7OneContextForEqualKeys();
        promise7LimitOfBeans();
        promise8Dirty();
        promise8ChildrenGreatestFirst();
        promise9Shutdown();
        promise17Cached();
        promise18Failures();
        promise19And20Events();
        CHECKS.end();
    }

    private static void promise7WrongConfigurations() {
        BeanContexts x = new BeanContexts(3);
        x.configure(0, 0, -1, 0);
        for (int none : NO_CONFIGURATIONS) {
            CHECKS.due("request(" + none + ")", x.request(none), -1);
            CHECKS.due("dirty(" + none + ")", x.dirty(none), -1);
            CHECKS.due("failures(" + none + ")", x.failures(none), -1);
        }
        CHECKS.due("events()", x.events(), 0);
        CHECKS.due("request(0), an empty one", x.request(0), 0);
        CHECKS.due("request(0) again", x.request(0), 0);
        CHECKS.dueEvents("after both", x, 0, 128);
    }

    private static void promise7WhatABuildMakes() {
        BeanContexts x = new BeanContexts(3);
        x.define(0, 0, 0, 0);
        x.define(0, LAZY, 0, 0);
        x.define(0, PROTOTYPE, 0, 0);
        x.define(0, LAZY + PROTOTYPE, 0, 0);
        x.define(0, LAZY + BROKEN, 0, 0);
        x.define(0, PROTOTYPE + BROKEN, 0, 0);
        x.configure(63, 0, -1, 0);
        x.configure(63, 0, -1, 62);
        x.request(0);
        CHECKS.dueEvents("without mocks", x, 0, 64, 128);
        x.request(1);
        CHECKS.dueEvents("with mocks", x, 2, 64, 65, 66, 67, 68, 69, 129);
        x.dirty(1);
        CHECKS.dueEvents("after the mocks", x, 9, 261, 260, 259, 258, 257, 256, 321);
    }

    private static void promise7Codes() {
        int[] codes = {-3, -4, -4, -5, -6, -3, -5};
        for (int variant = 0; variant < codes.length; variant++) {
            BeanContexts x = new BeanContexts(3);
            x.define(0, variant == 4 ? BROKEN : 0, 0, 0);
            x.define(1, variant == 2 ? 1 : 0, 0, 0);
            x.define(1, variant == 2 ? 1 : LAZY, 0, 0);
            if (variant == 0) {
                x.need(0, 2, 0, -1);
            } else if (variant == 1) {
                x.need(0, 1, 0, 0);
            } else if (variant == 2) {
                x.need(0, 1, 0, 1);
            } else if (variant == 3) {
                x.need(0, 0, 0, -1);
            } else if (variant == 5) {
                x.need(0, 1, 3, 1);
            } else if (variant == 6) {
                x.need(0, 1, 0, 2);
                x.need(2, 0, 0, -1);
            }
            x.configure(7, 0, -1, 0);
            CHECKS.due("request, variant " + variant, x.request(0), codes[variant]);
            CHECKS.dueEvents("of variant " + variant, x, 0, 192);
            CHECKS.dueCached("in variant " + variant, x);
        }
    }

    private static void promise7FailedBuildIsTakenBack() {
        BeanContexts x = new BeanContexts(3);
        x.define(0, 0, 0, 0);
        x.define(1, PROTOTYPE, 0, 0);
        x.define(2, PROTOTYPE, 0, 0);
        x.define(3, LAZY, 0, 0);
        x.define(4, 0, 0, 0);
        x.need(0, 1, 0, -1);
        x.need(0, 2, 0, -1);
        x.need(4, 3, 0, -1);
        x.need(4, 1, 0, -1);
        x.need(4, 5, 0, -1);
        x.configure(31, 0, -1, 4);
        CHECKS.due("request(0)", x.request(0), -3);
        CHECKS.dueEvents("of the failed build", x, 0, 65, 66, 64, 67, 65, 259, 256, 258, 192);
        for (int bean = 0; bean < 5; bean++) {
            CHECKS.due("definition(" + bean + ")", x.definition(bean), -1);
            CHECKS.due("call(" + bean + ", 0)", x.call(bean, 0), 4294967296L);
        }
        CHECKS.due("request(0)", x.request(0), -3);
        CHECKS.due("event(0), the second build's number", x.event(0), 193);
    }

    private static void promise7WhatWasMadeInTheParentStays() {
        BeanContexts x = new BeanContexts(3);
        x.define(0, LAZY, 0, 0);
        x.define(1, PROTOTYPE, 0, 0);
        x.define(2, BROKEN, 0, 0);
        x.need(2, 0, 0, -1);
        x.need(2, 1, 0, -1);
        x.configure(3, 0, -1, 0);
        x.configure(4, 0, 0, 0);
        CHECKS.due("request(1)", x.request(1), -6);
        CHECKS.dueEvents("after it", x, 0, 128, 64, 65, 193);
        CHECKS.due("the parent's bean", x.definition(0), 0);
        CHECKS.due("the parent's prototype", x.definition(1), 1);
        CHECKS.due("get of the parent's bean", x.get(0, 0, 0, -1), 0);
        CHECKS.dueCached("after it", x, 0);
        CHECKS.due("failures of the parent", x.failures(0), 0);
        CHECKS.due("failures of the child", x.failures(1), 1);
        x.dirty(0);
        CHECKS.dueEvents("after dirty", x, 4, 256, 320);
        CHECKS.due("the parent's prototype", x.definition(1), -1);
    }

    private static void promise7RefusedAfterTwoFailures() {
        BeanContexts x = new BeanContexts(3);
        x.define(0, BROKEN, 0, 0);
        x.define(1, 0, 0, 1);
        x.configure(1, 0, -1, 0);
        x.configure(3, 2, -1, 0);
        x.configure(3, 1, -1, 0);
        CHECKS.due("request(0)", x.request(0), -6);
        CHECKS.due("request(1), an equal key", x.request(1), -6);
        CHECKS.due("request(0), refused", x.request(0), -8);
        CHECKS.due("request(1), refused", x.request(1), -8);
        CHECKS.dueEvents("after all", x, 0, 192, 193);
        CHECKS.due("request(2), another key", x.request(2), -6);
        CHECKS.due("failures(0)", x.failures(0), 2);
        CHECKS.due("failures(2)", x.failures(2), 1);
        int child = x.configure(0, 0, 0, 0);
        CHECKS.due("a child of the refused one", x.request(child), -8);
        CHECKS.due("failures(child)", x.failures(child), 0);
    }

    private static void promise7ParentAnswersACode() {
        BeanContexts x = new BeanContexts(3);
        x.define(0, BROKEN, 0, 0);
        x.define(1, 0, 0, 0);
        x.need(1, 5, 0, -1);
        x.configure(1, 0, -1, 0);
        x.configure(0, 0, 0, 0);
        x.configure(2, 0, 1, 0);
        CHECKS.due("request(2)", x.request(2), -6);
        CHECKS.dueEvents("after it", x, 0, 192);
        CHECKS.due("failures(2)", x.failures(2), 0);
        CHECKS.due("failures(1)", x.failures(1), 0);
        CHECKS.due("failures(0)", x.failures(0), 1);
        BeanContexts y = new BeanContexts(3);
        y.define(0, BROKEN, 0, 0);
        y.configure(0, 0, -1, 0);
        y.configure(1, 0, 0, 0);
        y.request(1);
        y.request(1);
        y.dirty(0);
        CHECKS.due("a refused child", y.request(1), -8);
        CHECKS.dueCached("as the parent is not obtained", y);
    }

    private static void promise7ThirtyBuilds() {
        BeanContexts x = new BeanContexts(3);
        x.define(0, BROKEN, 0, 0);
        x.configure(0, 0, -1, 0);
        x.configure(1, 0, -1, 0);
        CHECKS.due("request(1)", x.request(1), -6);
        for (int number = 1; number < 30; number++) {
            x.dirty(0);
            CHECKS.due("request(0)", x.request(0), number);
        }
        CHECKS.due("request(0), cached", x.request(0), 29);
        int before = x.events();
        CHECKS.due("request(1), too late", x.request(1), -7);
        CHECKS.due("failures(1)", x.failures(1), 1);
        x.dirty(0);
        CHECKS.due("request(0), too late", x.request(0), -7);
        CHECKS.dueEvents("after these", x, before, 349);
        CHECKS.due("failures(0)", x.failures(0), 0);
    }

    private static void promise7LimitComesBehindTheParent() {
        BeanContexts x = new BeanContexts(3);
        x.define(0, BROKEN, 0, 0);
        x.define(1, 0, 0, 0);
        x.configure(0, 0, -1, 0);
        x.configure(2, 0, -1, 0);
        x.configure(0, 0, 0, 0);
        x.configure(1, 0, -1, 0);
        x.request(3);
        x.request(3);
        for (int i = 2; i < 29; i++) {
            x.request(1);
            x.dirty(1);
        }
        x.request(0);
        CHECKS.due("the thirty are begun", x.request(1), -7);
        CHECKS.due("refused goes before the limit", x.request(3), -8);
        CHECKS.due("a child of a cached parent", x.request(2), -7);
        CHECKS.dueCached("then", x, 29);
        BeanContexts y = new BeanContexts(3);
        y.define(0, 0, 0, 0);
        y.configure(0, 0, -1, 0);
        y.configure(1, 0, -1, 0);
        y.configure(0, 0, 0, 0);
        for (int i = 0; i < 28; i++) {
            y.request(0);
            y.dirty(0);
        }
        y.request(0);
        y.request(1);
        CHECKS.dueCached("before the limit", y, 29, 28);
        CHECKS.due("the child's build is one too many", y.request(2), -7);
        CHECKS.dueCached("but its parent was used", y, 28, 29);
    }

    private static void promise7LeastRecentlyUsedGivesWay() {
        BeanContexts x = new BeanContexts(3);
        for (int i = 0; i < 5; i++) {
            x.define(0, 0, 0, 0);
        }
        for (int i = 0; i < 5; i++) {
            x.configure(1 << i, 0, -1, 0);
        }
        x.request(0);
        x.request(1);
        x.request(2);
        x.request(0);
        CHECKS.dueCached("after using 0 again", x, 0, 2, 1);
        int before = x.events();
        CHECKS.due("request(3)", x.request(3), 3);
        CHECKS.dueEvents("the displaced one is closed before", x, before, 67, 257, 321, 131);
        CHECKS.dueCached("after it", x, 3, 0, 2);
        before = x.events();
        x.get(2, 0, 0, -1);
        x.reset(2);
        CHECKS.due("request(4)", x.request(4), 4);
        CHECKS.dueEvents("as get and reset are no use", x, before, 68, 258, 322, 132);
        CHECKS.dueCached("after it", x, 4, 3, 0);
        CHECKS.due("a displaced one is built anew", x.request(1), 5);
        CHECKS.dueCached("after it", x, 5, 4, 3);
    }

    private static void promise7AncestorsDoNotGiveWay() {
        BeanContexts x = new BeanContexts(3);
        for (int i = 0; i < 3; i++) {
            x.define(i, 0, 0, 0);
        }
        x.configure(1, 0, -1, 0);
        x.configure(2, 0, 0, 0);
        x.configure(1, 0, 1, 0);
        x.configure(2, 0, 1, 0);
        x.configure(4, 0, 0, 0);
        CHECKS.due("request(2) builds all three", x.request(2), 2);
        CHECKS.dueEvents("after it", x, 0, 64, 128, 65, 129, 64, 130);
        CHECKS.dueCached("after it", x, 2, 1, 0);
        x.request(0);
        CHECKS.dueCached("after using the farthest", x, 0, 2, 1);
        x.request(1);
        CHECKS.dueCached("after using the middle one", x, 1, 0, 2);
        x.request(2);
        CHECKS.dueCached("ancestors are used with it", x, 2, 1, 0);
        int before = x.events();
        CHECKS.due("request(3), a second grandchild", x.request(3), 3);
        CHECKS.dueEvents("displaces the first", x, before, 65, 256, 322, 131);
        CHECKS.dueCached("after it", x, 3, 1, 0);
        before = x.events();
        CHECKS.due("request(4), a second child", x.request(4), 4);
        CHECKS.dueEvents("displaces the other branch", x, before, 66, 257, 323, 257, 321, 132);
        CHECKS.dueCached("after it", x, 4, 0);
    }

    private static void promise7DisplacedParentTakesItsChildren() {
        BeanContexts x = new BeanContexts(4);
        x.define(0, 0, 0, 0);
        x.define(1, 0, 0, 0);
        x.configure(0, 0, -1, 0);
        x.configure(1, 0, 0, 0);
        x.configure(2, 0, 0, 0);
        x.configure(1, 0, -1, 0);
        x.configure(2, 0, -1, 0);
        x.request(1);
        x.request(2);
        x.request(3);
        CHECKS.dueCached("with two children of one", x, 3, 2, 0, 1);
        int before = x.events();
        x.request(4);
        CHECKS.dueEvents("only the one child goes", x, before, 65, 256, 321, 132);
        x.request(1);
        CHECKS.dueCached("the child anew, its parent used", x, 5, 0, 4, 3);
        x.request(3);
        x.request(4);
        CHECKS.dueCached("the parent and the child are the eldest", x, 4, 3, 5, 0);
        before = x.events();
        CHECKS.due("another one", x.request(x.configure(3, 0, -1, 0)), 6);
        CHECKS.dueEvents("displaces both", x, before, 64, 65, 256, 325, 320, 134);
        CHECKS.dueCached("after it", x, 6, 4, 3);
    }

    private static void promise7OneContextForEqualKeys() {
        BeanContexts x = new BeanContexts(3);
        x.define(0, 0, 0, 0);
        x.configure(1, 0, -1, 0);
        x.configure(1, 3, -1, 0);
        x.configure(1, 0, 0, 1);
        x.configure(1, 2, 1, 1);
        CHECKS.due("request(3)", x.request(3), 1);
        CHECKS.due("request(2)", x.request(2), 1);
        CHECKS.due("request(1)", x.request(1), 0);
        CHECKS.due("request(0)", x.request(0), 0);
        CHECKS.due("get by the one", x.get(2, 0, 0, -1), 1);
        CHECKS.due("get by the other", x.get(3, 0, 0, -1), 1);
        CHECKS.due("reset by the other", x.reset(3), 1);
        CHECKS.due("dirty by the other", x.dirty(1), 2);
    }

    private static void promise7LimitOfBeans() {
        BeanContexts x = new BeanContexts(3);
        x.define(0, PROTOTYPE, 0, 0);
        x.define(1, 0, 0, 0);
        x.define(2, LAZY + BROKEN, 0, 0);
        x.define(3, LAZY, 0, 0);
        x.configure(13, 0, -1, 0);
        x.configure(2, 0, -1, 0);
        x.configure(2, 0, -1, 2);
        x.request(0);
        for (int bean = 0; bean < 200; bean++) {
            CHECKS.due("get", x.get(0, 0, 0, -1), bean);
        }
        int before = x.events();
        CHECKS.due("one bean more", x.get(0, 0, 0, -1), -7);
        CHECKS.due("broken goes before the limit", x.get(0, 2, 0, -1), -6);
        CHECKS.due("a lazy one", x.get(0, 3, 0, -1), -7);
        CHECKS.due("the last one lives", x.definition(199), 0);
        CHECKS.due("there is none behind it", x.definition(200), -1);
        CHECKS.due("events()", x.events(), before);
        CHECKS.due("request(1)", x.request(1), -7);
        CHECKS.due("request(2), mocks are beans too", x.request(2), -7);
        CHECKS.dueEvents("both have failed", x, before, 193, 194);
        CHECKS.due("failures(1)", x.failures(1), 1);
        CHECKS.due("failures(2)", x.failures(2), 1);
        CHECKS.due("request(1)", x.request(1), -7);
        CHECKS.due("request(1)", x.request(1), -8);
    }

    private static void promise8Dirty() {
        BeanContexts x = new BeanContexts(6);
        x.define(0, 0, 0, 0);
        x.define(1, PROTOTYPE, 0, 0);
        x.define(2, LAZY, 0, 0);
        x.configure(7, 0, -1, 0);
        x.configure(7, 1, 0, 0);
        CHECKS.due("dirty(0), none cached", x.dirty(0), 0);
        x.request(0);
        CHECKS.due("dirty(1), only its parent is cached", x.dirty(1), 0);
        CHECKS.due("a prototype", x.get(0, 1, 0, -1), 1);
        CHECKS.due("a lazy one", x.get(0, 2, 0, -1), 2);
        int before = x.events();
        CHECKS.due("dirty(0)", x.dirty(0), 1);
        CHECKS.dueEvents("no event for the prototype", x, before, 258, 256, 320);
        for (int bean = 0; bean < 3; bean++) {
            CHECKS.due("definition(" + bean + ")", x.definition(bean), -1);
        }
        CHECKS.due("dirty(0) again", x.dirty(0), 0);
        CHECKS.due("request(1)", x.request(1), 2);
        CHECKS.due("dirty(1) leaves the parent", x.dirty(1), 1);
        CHECKS.dueCached("after it", x, 1);
        CHECKS.due("failures(0), closing is no failure", x.failures(0), 0);
    }

    private static void promise8ChildrenGreatestFirst() {
        BeanContexts x = new BeanContexts(6);
        x.define(0, 0, 0, 0);
        x.define(1, 0, 0, 0);
        x.configure(0, 0, -1, 0);
        x.configure(1, 0, 0, 0);
        x.configure(2, 0, 0, 0);
        x.configure(1, 0, 2, 0);
        x.configure(2, 0, 1, 0);
        x.configure(3, 0, -1, 0);
        x.request(5);
        x.request(1);
        x.request(2);
        x.request(3);
        x.request(4);
        CHECKS.dueCached("before", x, 5, 2, 1, 4, 3, 0);
        int before = x.events();
        CHECKS.due("dirty(0)", x.dirty(0), 5);
        CHECKS.dueEvents("3 with 4 below it, then 2 with 5 below it", x, before,
                256, 324, 257, 323, 257, 325, 256, 322, 321);
        CHECKS.dueCached("after it", x, 0);
    }

    private static void promise9Shutdown() {
        BeanContexts x = new BeanContexts(6);
        x.define(0, 0, 0, 0);
        x.define(1, 0, 0, 0);
        x.configure(1, 0, -1, 0);
        x.configure(2, 0, -1, 0);
        x.configure(3, 0, 0, 0);
        x.request(0);
        x.request(1);
        x.request(2);
        x.request(1);
        x.request(0);
        int before = x.events();
        CHECKS.due("shutdown()", x.shutdown(), 3);
        CHECKS.dueEvents("the greatest first", x, before, 257, 256, 322, 257, 321, 256, 320);
        CHECKS.dueCached("after it", x);
        CHECKS.due("shutdown() again", x.shutdown(), 0);
        CHECKS.due("request(0)", x.request(0), -1);
        CHECKS.due("get(0, 0, 0, -1)", x.get(0, 0, 0, -1), -1);
        CHECKS.due("dirty(0)", x.dirty(0), 0);
        CHECKS.due("dirty(3)", x.dirty(3), -1);
        CHECKS.due("reset(0)", x.reset(0), -1);
        CHECKS.due("failures(0)", x.failures(0), 0);
        CHECKS.due("key(2)", x.key(2), 2);
        CHECKS.due("configure", x.configure(0, 0, -1, 0), 3);
        CHECKS.due("request(3)", x.request(3), -1);
        CHECKS.due("events()", x.events(), before + 7);
        BeanContexts y = new BeanContexts(3);
        y.configure(0, 0, -1, 0);
        CHECKS.due("shutdown() without contexts", y.shutdown(), 0);
        CHECKS.due("request(0)", y.request(0), -1);
    }

    private static void promise17Cached() {
        BeanContexts x = new BeanContexts(6);
        x.define(0, 0, 0, 0);
        x.configure(0, 0, -1, 0);
        x.configure(1, 0, -1, 0);
        x.configure(1, 0, -1, 1);
        x.request(0);
        x.request(1);
        x.request(2);
        CHECKS.dueCached("after three requests", x, 2, 1, 0);
        x.request(1);
        CHECKS.dueCached("after a use", x, 1, 2, 0);
        x.dirty(2);
        CHECKS.dueCached("after dirty", x, 1, 0);
        for (int none : new int[] {-1, 2, 3, 6, Integer.MIN_VALUE, Integer.MAX_VALUE}) {
            CHECKS.due("cached(" + none + ")", x.cached(none), -1);
        }
    }

    private static void promise18Failures() {
        BeanContexts x = new BeanContexts(3);
        x.define(0, BROKEN, 0, 0);
        x.configure(1, 0, -1, 0);
        x.configure(1, 0, -1, 1);
        CHECKS.due("failures(0) before", x.failures(0), 0);
        x.request(0);
        CHECKS.due("failures(0)", x.failures(0), 1);
        CHECKS.due("a later configuration with an equal key", x.failures(x.configure(1, 1, -1, 0)), 1);
        x.request(2);
        CHECKS.due("failures(0)", x.failures(0), 2);
        x.request(0);
        CHECKS.due("failures(0) after a refusal", x.failures(0), 2);
        CHECKS.due("failures(2)", x.failures(2), 2);
        CHECKS.due("the mock is not broken", x.request(1), 2);
        CHECKS.due("failures(1)", x.failures(1), 0);
        x.get(1, 5, 0, -1);
        CHECKS.due("a get that fails is no failed build", x.failures(1), 0);
    }

    private static void promise19And20Events() {
        BeanContexts x = new BeanContexts(3);
        x.define(0, PROTOTYPE, 0, 0);
        x.define(1, LAZY, 0, 0);
        x.configure(3, 0, -1, 0);
        x.request(0);
        x.get(0, 1, 0, -1);
        for (int i = 0; i < 28; i++) {
            x.get(0, 0, 0, -1);
        }
        CHECKS.due("events()", x.events(), 30);
        CHECKS.due("event(29), the first", x.event(29), 128);
        CHECKS.due("event(30)", x.event(30), -1);
        x.get(0, 0, 0, -1);
        x.get(0, 0, 0, -1);
        CHECKS.due("events()", x.events(), 32);
        CHECKS.due("event(31), the first", x.event(31), 128);
        CHECKS.due("event(30)", x.event(30), 65);
        CHECKS.due("event(32)", x.event(32), -1);
        x.get(0, 0, 0, -1);
        CHECKS.due("events()", x.events(), 33);
        CHECKS.due("event(31), the second", x.event(31), 65);
        CHECKS.due("event(32)", x.event(32), -1);
        CHECKS.due("event(0)", x.event(0), 64);
        x.get(0, 1, 0, -1);
        x.request(0);
        x.request(7);
        CHECKS.due("events() after what makes none", x.events(), 33);
        for (int none : new int[] {-1, 33, 64, Integer.MIN_VALUE, Integer.MAX_VALUE}) {
            CHECKS.due("event(" + none + ")", x.event(none), -1);
        }
    }
}
