/**
 * Promises 7 to 9 and 17 to 20 and what stands under "Terms" about contexts, builds, closing and
 * events: each method holds one sentence of the document, on both sides of its boundary.
 */
public final class ContextEdgesTest {
    private static final Checks CHECKS = new Checks("ContextEdgesTest");
    private static final int LEAST = Integer.MIN_VALUE;
    private static final int GREATEST = Integer.MAX_VALUE;
    private static final int LAZY = 2;
    private static final int PROTOTYPE = 4;
    private static final int BROKEN = 8;

    public static void main(String[] args) {
        requestOfNoConfiguration();
        requestAfterShutdown();
        requestOfWhatIsCached();
        thirtyBuildsBegin();
        thirtyBuildsFailedOnesToo();
        theThirtiethBuildMayFail();
        theLimitIsNoFailedBuild();
        theParentMayBeTheThirtieth();
        theLimitComesBehindTheParentsUse();
        cachedIsUsedBeyondTheLimit();
        oneFailedBuildIsTriedAgain();
        twoFailedBuildsAreRefused();
        refusedComesBeforeTheParent();
        refusedComesBeforeTheLimit();
        failedBuildsOfEqualKeysCountTogether();
        theCodeOfTheParentIsTheAnswer();
        theCodeOfTheFarthestIsTheAnswer();
        failedBuildDisplacesNone();
        notFullDisplacesNone();
        fullDisplacesTheLongestUnused();
        fullAndCachedDisplacesNone();
        displacedWithAllBelowIt();
        ancestorsAreNotDisplaced();
        useMovesTheAncestorsToo();
        buildMakesNothing();
        buildMakesTheLeastFirst();
        buildMakesNoneTwice();
        buildMakesMocksOfAllKinds();
        failedBuildWithoutBeans();
        failedBuildDestroysTheLatestFirst();
        failedBuildKeepsThePrototypesEvent();
        failedBuildLeavesTheParentsBeans();
        buildWithTheTwoHundredthBean();
        buildWithOneBeanTooMany();
        buildWithOneMockTooMany();
        dirtyOfNoConfiguration();
        dirtyWithoutAContext();
        dirtyOfOneContext();
        dirtyOfAllBelow();
        dirtyLeavesFailures();
        closedGreatestNumberFirst();
        shutdownOfNone();
        shutdownOfSix();
        shutdownTwice();
        cachedPlaces();
        failuresOfNoConfiguration();
        failuresFromNoneToTwo();
        eventsCountOnBeyondTheKept();
        eventsOfCallsWithoutAny();
        eventPlaces();
        eventWrapsBeyondThirtyTwo();
        eventNumbers();
        CHECKS.end();
    }

    // Promise 7

    /** "-1 (refused) if there is no such configuration" */
    private static void requestOfNoConfiguration() {
        BeanContexts x = new BeanContexts(3);
        CHECKS.due("request(0) of none", x.request(0), -1);
        for (int i = 0; i < 8; i++) {
            CHECKS.due("request(" + i + ") before it is there", x.request(i), -1);
            x.configure(0, 0, -1, 0);
            CHECKS.due("request(" + i + ")", x.request(i), 0);
        }
        for (int none : new int[] {-1, 8, LEAST, GREATEST}) {
            CHECKS.due("request(" + none + ")", x.request(none), -1);
        }
        CHECKS.dueEvents("one context alone", x, 0, 128);
    }

    /** "or after shutdown()" */
    private static void requestAfterShutdown() {
        BeanContexts x = new BeanContexts(3);
        x.configure(0, 0, -1, 0);
        CHECKS.due("request before", x.request(0), 0);
        x.dirty(0);
        CHECKS.due("request after dirty", x.request(0), 1);
        x.shutdown();
        CHECKS.due("request after shutdown", x.request(0), -1);
        CHECKS.due("request of a later configuration", x.request(x.configure(0, 0, 0, 0)), -1);
        CHECKS.dueEvents("no build was begun", x, 0, 128, 320, 129, 321);
    }

    /** "if one is cached for an equal key, that is used" */
    private static void requestOfWhatIsCached() {
        BeanContexts x = new BeanContexts(3);
        x.define(0, 0, 0, 0);
        x.configure(1, 0, -1, 0);
        x.configure(0, 0, -1, 0);
        x.configure(1, 1, -1, 0);
        x.request(0);
        x.request(1);
        CHECKS.dueCached("before", x, 1, 0);
        CHECKS.due("request by an equal key", x.request(2), 0);
        CHECKS.dueCached("after", x, 0, 1);
        CHECKS.dueEvents("nothing was built for it", x, 0, 64, 128, 129);
    }

    /** "at most 30 ever begin", "if 30 builds have begun, the answer is LIMIT" */
    private static void thirtyBuildsBegin() {
        BeanContexts x = new BeanContexts(3);
        x.configure(0, 0, -1, 0);
        for (int number = 0; number < 30; number++) {
            CHECKS.due("build " + number, x.request(0), number);
            x.dirty(0);
        }
        CHECKS.due("one build more", x.request(0), -7);
        CHECKS.due("and again", x.request(0), -7);
        CHECKS.due("events()", x.events(), 60);
    }

    /** "Contexts are numbered by the builds that were begun, 0, 1, .. (failed ones too)" */
    private static void thirtyBuildsFailedOnesToo() {
        BeanContexts x = new BeanContexts(3);
        x.define(0, BROKEN, 0, 0);
        x.configure(1, 0, -1, 0);
        x.configure(0, 0, -1, 0);
        CHECKS.due("a build that fails", x.request(0), -6);
        CHECKS.due("its number is used", x.request(1), 1);
        CHECKS.due("a second one that fails", x.request(0), -6);
        CHECKS.dueEvents("0 and 2 have failed", x, 0, 192, 129, 194);
        for (int number = 3; number < 30; number++) {
            x.dirty(1);
            CHECKS.due("build " + number, x.request(1), number);
        }
        x.dirty(1);
        CHECKS.due("one build more", x.request(1), -7);
    }

    private static void theThirtiethBuildMayFail() {
        BeanContexts x = afterBuilds(29);
        int before = x.events();
        CHECKS.due("the thirtieth", x.request(1), -6);
        CHECKS.dueEvents("its bean is taken back", x, before, 67, 259, 221);
        CHECKS.due("failures(1)", x.failures(1), 1);
        CHECKS.due("one more", x.request(1), -7);
        CHECKS.due("failures(1) then", x.failures(1), 1);
    }

    /** LIMIT is an answer without a build: no event, no number, no failure. */
    private static void theLimitIsNoFailedBuild() {
        BeanContexts x = afterBuilds(30);
        int before = x.events();
        for (int i = 0; i < 3; i++) {
            CHECKS.due("request(1)", x.request(1), -7);
        }
        CHECKS.due("failures(1)", x.failures(1), 0);
        CHECKS.due("events()", x.events(), before);
        CHECKS.dueCached("nothing cached", x);
    }

    /**
     * Builds that were begun and closed again. Configuration 0 is empty, 1 breaks, 2 is a parent with
     * a bean, 3 its child, 4 is another one with a bean.
     */
    private static BeanContexts afterBuilds(int builds) {
        BeanContexts x = new BeanContexts(3);
        x.define(0, 0, 0, 0);
        x.define(1, 0, 0, 0);
        x.define(2, BROKEN, 0, 0);
        x.define(3, 0, 0, 0);
        x.need(2, 3, 0, -1);
        x.configure(0, 0, -1, 0);
        x.configure(12, 0, -1, 0);
        x.configure(1, 0, -1, 0);
        x.configure(2, 0, 2, 0);
        x.configure(8, 0, -1, 0);
        for (int i = 0; i < builds; i++) {
            x.request(0);
            x.dirty(0);
        }
        return x;
    }

    /** The parent is obtained before the builds are counted. */
    private static void theParentMayBeTheThirtieth() {
        BeanContexts x = afterBuilds(28);
        CHECKS.due("28 begun: the parent and the child", x.request(3), 29);
        CHECKS.dueCached("both", x, 29, 28);
        BeanContexts y = afterBuilds(29);
        int before = y.events();
        CHECKS.due("29 begun: the parent alone", y.request(3), -7);
        CHECKS.dueEvents("the parent was built", y, before, 64, 157);
        CHECKS.dueCached("and is cached", y, 29);
        BeanContexts z = afterBuilds(30);
        before = z.events();
        CHECKS.due("30 begun: neither", z.request(3), -7);
        CHECKS.due("events()", z.events(), before);
    }

    private static void theLimitComesBehindTheParentsUse() {
        BeanContexts x = afterBuilds(28);
        x.request(2);
        x.request(4);
        CHECKS.dueCached("before", x, 29, 28);
        CHECKS.due("the child of a cached parent", x.request(3), -7);
        CHECKS.dueCached("the parent was used", x, 28, 29);
    }

    private static void cachedIsUsedBeyondTheLimit() {
        BeanContexts x = afterBuilds(28);
        x.request(2);
        x.request(4);
        CHECKS.due("request(0)", x.request(0), -7);
        CHECKS.due("request(2), cached", x.request(2), 28);
        CHECKS.due("request(4), cached", x.request(4), 29);
        CHECKS.dueCached("used in turn", x, 29, 28);
    }

    /** "Else, if two builds for an equal key have failed, the answer is REFUSED" */
    private static void oneFailedBuildIsTriedAgain() {
        BeanContexts x = new BeanContexts(3);
        x.define(0, BROKEN, 0, 0);
        x.configure(1, 0, -1, 0);
        CHECKS.due("the first time", x.request(0), -6);
        CHECKS.due("the second time", x.request(0), -6);
        CHECKS.dueEvents("both were begun", x, 0, 192, 193);
    }

    private static void twoFailedBuildsAreRefused() {
        BeanContexts x = new BeanContexts(3);
        x.define(0, BROKEN, 0, 0);
        x.configure(1, 0, -1, 0);
        x.configure(0, 0, -1, 0);
        x.request(0);
        x.request(0);
        CHECKS.due("the third time", x.request(0), -8);
        CHECKS.due("the fourth time", x.request(0), -8);
        CHECKS.dueEvents("only two were begun", x, 0, 192, 193);
        CHECKS.due("no number was used", x.request(1), 2);
    }

    private static void refusedComesBeforeTheParent() {
        BeanContexts x = new BeanContexts(3);
        x.define(0, 0, 0, 0);
        x.define(1, BROKEN, 0, 0);
        x.configure(1, 0, -1, 0);
        x.configure(0, 0, -1, 0);
        x.configure(2, 0, 0, 0);
        x.request(2);
        x.request(2);
        x.request(1);
        CHECKS.dueCached("before", x, 3, 0);
        CHECKS.due("the refused child", x.request(2), -8);
        CHECKS.dueCached("its parent was not used", x, 3, 0);
        x.dirty(0);
        int before = x.events();
        CHECKS.due("the refused child", x.request(2), -8);
        CHECKS.due("its parent was not built", x.events(), before);
    }

    private static void refusedComesBeforeTheLimit() {
        BeanContexts x = afterBuilds(28);
        x.request(1);
        CHECKS.due("29 begun", x.request(1), -6);
        CHECKS.due("30 begun, two of them failed", x.request(1), -8);
        CHECKS.due("another key", x.request(0), -7);
    }

    private static void failedBuildsOfEqualKeysCountTogether() {
        BeanContexts x = new BeanContexts(3);
        x.define(0, BROKEN, 0, 0);
        x.configure(0, 0, -1, 0);
        x.configure(1, 0, -1, 0);
        x.configure(3, 2, -1, 0);
        x.configure(1, 0, 0, 0);
        CHECKS.due("request(1)", x.request(1), -6);
        CHECKS.due("request(2)", x.request(2), -6);
        CHECKS.due("request(1), two have failed", x.request(1), -8);
        CHECKS.due("request(2), two have failed", x.request(2), -8);
        CHECKS.due("request(3), another key", x.request(3), -6);
        CHECKS.due("request(3), one has failed", x.request(3), -6);
        CHECKS.due("request(3), two have failed", x.request(3), -8);
    }

    /** "the context of the parent's key is obtained; if that answers a code, this is the answer" */
    private static void theCodeOfTheParentIsTheAnswer() {
        BeanContexts x = new BeanContexts(3);
        x.define(0, BROKEN, 0, 0);
        x.define(1, 0, 0, 0);
        x.configure(1, 0, -1, 0);
        x.configure(2, 0, 0, 0);
        CHECKS.due("the parent's build fails", x.request(1), -6);
        CHECKS.due("and again", x.request(1), -6);
        CHECKS.due("the parent is refused", x.request(1), -8);
        CHECKS.dueEvents("nothing of the child", x, 0, 192, 193);
        CHECKS.due("failures of the parent", x.failures(0), 2);
        CHECKS.due("failures of the child", x.failures(1), 0);
    }

    private static void theCodeOfTheFarthestIsTheAnswer() {
        BeanContexts x = new BeanContexts(3);
        x.define(0, 0, 0, 0);
        x.need(0, 1, 0, -1);
        x.configure(1, 0, -1, 0);
        x.configure(0, 0, 0, 0);
        x.configure(0, 0, 1, 0);
        CHECKS.due("two steps above", x.request(2), -3);
        CHECKS.due("and again", x.request(2), -3);
        CHECKS.due("refused two steps above", x.request(2), -8);
        CHECKS.due("failures(0)", x.failures(0), 2);
        CHECKS.due("failures(1)", x.failures(1), 0);
        CHECKS.due("failures(2)", x.failures(2), 0);
        CHECKS.dueCached("none", x);
    }

    /** Only a context that was built makes another one give way. */
    private static void failedBuildDisplacesNone() {
        BeanContexts x = new BeanContexts(3);
        x.define(0, 0, 0, 0);
        x.define(1, BROKEN, 0, 0);
        x.configure(0, 0, -1, 0);
        x.configure(1, 0, -1, 0);
        x.configure(1, 0, -1, 1);
        x.configure(2, 0, -1, 0);
        x.request(0);
        x.request(1);
        x.request(2);
        CHECKS.due("a build that fails when full", x.request(3), -6);
        CHECKS.dueCached("all are still there", x, 2, 1, 0);
    }

    /** "if as many contexts are cached as the CAPACITY says" */
    private static void notFullDisplacesNone() {
        BeanContexts x = new BeanContexts(4);
        x.define(0, 0, 0, 0);
        x.define(1, 0, 0, 0);
        for (int set = 0; set < 4; set++) {
            x.configure(set, 0, -1, 0);
            x.request(set);
            CHECKS.due("the first is still there", x.cached(set), 0);
        }
        x.dirty(1);
        CHECKS.due("one place is free", x.request(1), 4);
        CHECKS.dueCached("all four", x, 4, 3, 2, 0);
    }

    private static void fullDisplacesTheLongestUnused() {
        BeanContexts x = new BeanContexts(3);
        x.define(0, 0, 0, 0);
        x.define(1, 0, 0, 0);
        for (int set = 0; set < 4; set++) {
            x.configure(set, 0, -1, 0);
        }
        x.request(1);
        x.request(0);
        x.request(2);
        x.request(1);
        int before = x.events();
        CHECKS.due("a fourth", x.request(3), 3);
        CHECKS.dueEvents("the displaced one is closed before", x, before, 64, 65, 321, 131);
        CHECKS.dueCached("then", x, 3, 0, 2);
    }

    private static void fullAndCachedDisplacesNone() {
        BeanContexts x = new BeanContexts(3);
        x.define(0, 0, 0, 0);
        for (int i = 0; i < 3; i++) {
            x.configure(i > 0 ? 1 : 0, 0, -1, i > 1 ? 1 : 0);
            x.request(i);
        }
        int before = x.events();
        CHECKS.due("the eldest", x.request(0), 0);
        CHECKS.dueCached("in turn", x, 0, 2, 1);
        CHECKS.due("events()", x.events(), before);
    }

    /** One gives way with the whole branch below it. */
    private static void displacedWithAllBelowIt() {
        BeanContexts x = new BeanContexts(4);
        x.define(0, 0, 0, 0);
        x.define(1, 0, 0, 0);
        x.configure(0, 0, -1, 0);
        x.configure(1, 0, 0, 0);
        x.configure(2, 0, 1, 0);
        x.configure(3, 0, -1, 0);
        x.configure(2, 0, -1, 0);
        x.request(2);
        x.request(3);
        CHECKS.dueCached("full", x, 3, 2, 1, 0);
        int before = x.events();
        CHECKS.due("one more", x.request(4), 4);
        CHECKS.dueEvents("the eldest and two below it", x, before, 65, 257, 322, 256, 321, 320, 132);
        CHECKS.dueCached("then", x, 4, 3);
    }

    /** "but for the ancestors of the new one": with capacity 3 one place is left beside two of them. */
    private static void ancestorsAreNotDisplaced() {
        BeanContexts x = new BeanContexts(3);
        x.define(0, 0, 0, 0);
        x.define(1, 0, 0, 0);
        x.configure(0, 0, -1, 0);
        x.configure(0, 0, 0, 0);
        x.configure(1, 0, 1, 0);
        x.configure(2, 0, 1, 0);
        x.configure(3, 0, -1, 0);
        x.request(1);
        x.request(4);
        CHECKS.dueCached("the ancestors are the eldest", x, 2, 1, 0);
        CHECKS.due("a grandchild", x.request(2), 3);
        CHECKS.dueCached("the other one gave way", x, 3, 1, 0);
        CHECKS.due("another grandchild", x.request(3), 4);
        CHECKS.dueCached("the first one gave way", x, 4, 1, 0);
    }

    /** "first its ancestors from the farthest on, then itself become the latest" */
    private static void useMovesTheAncestorsToo() {
        BeanContexts x = new BeanContexts(5);
        x.define(0, 0, 0, 0);
        x.define(1, 0, 0, 0);
        x.configure(0, 0, -1, 0);
        x.configure(0, 0, 0, 0);
        x.configure(0, 0, 1, 0);
        x.configure(1, 0, -1, 0);
        x.configure(2, 0, -1, 0);
        x.request(2);
        x.request(3);
        x.request(4);
        CHECKS.dueCached("before", x, 4, 3, 2, 1, 0);
        x.request(2);
        CHECKS.dueCached("a grandchild was used", x, 2, 1, 0, 4, 3);
        x.request(4);
        x.request(1);
        CHECKS.dueCached("a child was used, not what is below", x, 1, 0, 4, 2, 3);
        x.request(3);
        x.request(0);
        CHECKS.dueCached("the farthest was used", x, 0, 3, 1, 4, 2);
    }

    /** "for each definition in it .. that is mocked, or neither lazy nor a prototype" */
    private static void buildMakesNothing() {
        BeanContexts x = new BeanContexts(3);
        x.define(0, LAZY + BROKEN, 0, 0);
        x.define(0, PROTOTYPE + BROKEN, 0, 0);
        x.define(0, LAZY + PROTOTYPE + BROKEN, 0, 0);
        x.configure(7, 0, -1, 0);
        CHECKS.due("request", x.request(0), 0);
        CHECKS.dueEvents("no bean", x, 0, 128);
    }

    /** "the least first" */
    private static void buildMakesTheLeastFirst() {
        BeanContexts x = new BeanContexts(3);
        for (int i = 0; i < 10; i++) {
            x.define(0, i == 4 ? LAZY : 0, 0, 0);
        }
        x.configure(1023 - 1, 0, -1, 0);
        x.request(0);
        CHECKS.dueEvents("1 to 9 without 4", x, 0, 65, 66, 67, 69, 70, 71, 72, 73, 128);
    }

    /** "its bean is SUPPLIED, if there is none yet" */
    private static void buildMakesNoneTwice() {
        BeanContexts x = new BeanContexts(3);
        x.define(0, 0, 0, 0);
        x.define(1, 0, 0, 0);
        x.define(2, 0, 0, 0);
        x.need(0, 2, 0, -1);
        x.need(1, 2, 0, -1);
        x.configure(7, 0, -1, 4);
        x.configure(7, 0, -1, 0);
        x.request(0);
        CHECKS.dueEvents("the mock once", x, 0, 66, 64, 65, 128);
        x.request(1);
        CHECKS.dueEvents("the bean once", x, 4, 66, 64, 65, 129);
    }

    private static void buildMakesMocksOfAllKinds() {
        BeanContexts x = new BeanContexts(3);
        for (int i = 0; i < 10; i++) {
            x.define(0, i, 0, 0);
            x.need(i, 5, 0, -1);
        }
        x.configure(1023, 0, -1, 1023);
        CHECKS.due("request", x.request(0), 0);
        CHECKS.due("ten mocks", x.reset(0), 10);
        CHECKS.due("events()", x.events(), 11);
        CHECKS.due("dirty", x.dirty(0), 1);
        CHECKS.dueEvents("all are destroyed", x, 11, 265, 264, 263, 262, 261, 260, 259, 258, 257, 256, 320);
    }

    /** "3 the build of context n has failed (after its beans were destroyed)" */
    private static void failedBuildWithoutBeans() {
        BeanContexts x = new BeanContexts(3);
        x.define(0, BROKEN, 0, 0);
        x.define(1, 0, 0, 0);
        x.configure(3, 0, -1, 0);
        CHECKS.due("the first one breaks", x.request(0), -6);
        CHECKS.dueEvents("nothing behind it is made", x, 0, 192);
    }

    /** "the beans of the new context are destroyed, the latest one made first" */
    private static void failedBuildDestroysTheLatestFirst() {
        BeanContexts x = new BeanContexts(3);
        x.define(0, 0, 0, 0);
        x.define(1, 0, 0, 0);
        x.define(2, BROKEN, 0, 0);
        x.define(3, LAZY, 0, 0);
        x.need(0, 1, 0, -1);
        x.need(2, 3, 0, -1);
        x.configure(15, 0, -1, 0);
        CHECKS.due("request", x.request(0), -6);
        CHECKS.dueEvents("taken back in turn", x, 0, 65, 64, 67, 259, 256, 257, 192);
        CHECKS.dueCached("none", x);
        for (int bean = 0; bean < 3; bean++) {
            CHECKS.due("bean " + bean + " is gone", x.definition(bean), -1);
        }
        CHECKS.due("the second time", x.request(0), -6);
        CHECKS.dueEvents("all anew", x, 7, 65, 64, 67, 259, 256, 257, 193);
    }

    /** "(those of prototypes are not, unless they are mocks)" */
    private static void failedBuildKeepsThePrototypesEvent() {
        BeanContexts x = new BeanContexts(3);
        x.define(0, BROKEN, 0, 0);
        x.define(1, PROTOTYPE, 0, 0);
        x.need(0, 1, 0, -1);
        x.configure(3, 0, -1, 0);
        x.configure(3, 0, -1, 2);
        CHECKS.due("with a prototype", x.request(0), -6);
        CHECKS.dueEvents("it is not destroyed", x, 0, 65, 192);
        CHECKS.due("but gone", x.definition(0), -1);
        CHECKS.due("with a mock of it", x.request(1), -6);
        CHECKS.dueEvents("it is destroyed", x, 2, 65, 257, 193);
        CHECKS.due("and gone", x.definition(1), -1);
    }

    /** "(What was made for a bean that can not be made stays, but for what a failed build takes back.)" */
    private static void failedBuildLeavesTheParentsBeans() {
        BeanContexts x = new BeanContexts(3);
        x.define(0, LAZY, 0, 0);
        x.define(1, BROKEN, 0, 0);
        x.define(2, LAZY, 0, 0);
        x.need(1, 0, 0, -1);
        x.need(1, 2, 0, -1);
        x.configure(1, 0, -1, 0);
        x.configure(6, 0, 0, 0);
        CHECKS.due("the child breaks", x.request(1), -6);
        CHECKS.dueEvents("its own bean is destroyed", x, 0, 128, 64, 66, 258, 193);
        CHECKS.due("the parent's bean lives", x.definition(0), 0);
        CHECKS.due("the child's does not", x.definition(1), -1);
        CHECKS.due("the second time", x.request(1), -6);
        CHECKS.dueEvents("the parent's bean is there", x, 5, 66, 258, 194);
        CHECKS.due("get of the parent's bean", x.get(0, 0, 0, -1), 0);
    }

    /** "if 200 beans were made, the answer is LIMIT" */
    private static void buildWithTheTwoHundredthBean() {
        BeanContexts x = afterBeans(198);
        CHECKS.due("a build with two beans", x.request(1), 1);
        CHECKS.due("bean 198", x.definition(198), 1);
        CHECKS.due("bean 199", x.definition(199), 2);
        CHECKS.due("bean 200", x.definition(200), -1);
        CHECKS.due("the same context is used", x.request(1), 1);
        CHECKS.due("an empty build", x.request(4), 2);
    }

    private static void buildWithOneBeanTooMany() {
        BeanContexts x = afterBeans(199);
        int before = x.events();
        CHECKS.due("a build with two beans", x.request(1), -7);
        CHECKS.dueEvents("the one is taken back", x, before, 65, 257, 193);
        CHECKS.due("failures(1)", x.failures(1), 1);
        CHECKS.due("the one is gone", x.definition(199), -1);
        CHECKS.due("the numbers of what is gone are used", x.request(3), -7);
        CHECKS.due("a second time", x.request(1), -7);
        CHECKS.due("a third time", x.request(1), -8);
        CHECKS.due("an empty build", x.request(4), 4);
    }

    private static void buildWithOneMockTooMany() {
        BeanContexts x = afterBeans(199);
        CHECKS.due("a build with a mock", x.request(2), 1);
        CHECKS.due("the mock", x.stub(199, 1), true);
        BeanContexts y = afterBeans(200);
        int before = y.events();
        CHECKS.due("a build with a mock", y.request(2), -7);
        CHECKS.dueEvents("nothing was made", y, before, 193);
        CHECKS.due("no mock", y.stub(200, 1), false);
    }

    /**
     * Prototypes that were made in the context of configuration 0. Configuration 1 has two beans, 2 a
     * mock, 3 one bean, 4 none.
     */
    private static BeanContexts afterBeans(int beans) {
        BeanContexts x = new BeanContexts(6);
        x.define(0, PROTOTYPE, 0, 0);
        x.define(1, 0, 0, 0);
        x.define(2, 0, 0, 0);
        x.configure(1, 0, -1, 0);
        x.configure(6, 0, -1, 0);
        x.configure(2, 0, -1, 2);
        x.configure(4, 0, -1, 0);
        x.configure(0, 0, -1, 0);
        x.request(0);
        for (int bean = 0; bean < beans; bean++) {
            CHECKS.due("bean " + bean, x.get(0, 0, 0, -1), bean);
        }
        return x;
    }

    // Promise 8

    /** "-1 (refused) if there is no such configuration" */
    private static void dirtyOfNoConfiguration() {
        BeanContexts x = new BeanContexts(3);
        CHECKS.due("dirty(0) of none", x.dirty(0), -1);
        for (int i = 0; i < 8; i++) {
            CHECKS.due("dirty(" + i + ") before it is there", x.dirty(i), -1);
            x.configure(0, 0, -1, 0);
            CHECKS.due("dirty(" + i + ")", x.dirty(i), 0);
        }
        x.request(0);
        for (int none : new int[] {-1, 8, LEAST, GREATEST}) {
            CHECKS.due("dirty(" + none + ")", x.dirty(none), -1);
        }
        CHECKS.due("dirty(7), an equal key", x.dirty(7), 1);
    }

    /** "if one is cached" */
    private static void dirtyWithoutAContext() {
        BeanContexts x = new BeanContexts(3);
        x.define(0, BROKEN, 0, 0);
        x.configure(0, 0, -1, 0);
        x.configure(1, 0, 0, 0);
        CHECKS.due("never requested", x.dirty(0), 0);
        x.request(1);
        CHECKS.due("its build has failed", x.dirty(1), 0);
        CHECKS.due("its parent is cached", x.dirty(0), 1);
        CHECKS.due("closed already", x.dirty(0), 0);
        x.shutdown();
        CHECKS.due("after shutdown", x.dirty(0), 0);
        CHECKS.due("of none after shutdown", x.dirty(2), -1);
    }

    /** "Answers how many contexts were closed" */
    private static void dirtyOfOneContext() {
        BeanContexts x = new BeanContexts(3);
        x.define(0, 0, 0, 0);
        x.define(1, PROTOTYPE, 0, 0);
        x.configure(3, 0, -1, 0);
        x.configure(1, 0, -1, 0);
        x.request(0);
        x.request(1);
        x.get(0, 1, 0, -1);
        int before = x.events();
        CHECKS.due("dirty(0)", x.dirty(0), 1);
        CHECKS.dueEvents("the prototype is not destroyed", x, before, 256, 320);
        CHECKS.due("the bean is gone", x.definition(0), -1);
        CHECKS.due("the prototype is gone", x.definition(2), -1);
        CHECKS.due("the other context's bean is not", x.definition(1), 0);
        CHECKS.dueCached("the other one", x, 1);
    }

    /** "the cached contexts whose parent it is are closed" */
    private static void dirtyOfAllBelow() {
        BeanContexts x = new BeanContexts(6);
        x.configure(0, 0, -1, 0);
        x.configure(0, 0, 0, 0);
        x.configure(0, 0, 1, 0);
        x.request(2);
        CHECKS.due("the grandchild alone", x.dirty(2), 1);
        x.request(2);
        CHECKS.due("the child with it", x.dirty(1), 2);
        x.request(2);
        CHECKS.due("all three", x.dirty(0), 3);
        CHECKS.dueCached("none", x);
    }

    private static void dirtyLeavesFailures() {
        BeanContexts x = new BeanContexts(3);
        x.define(0, BROKEN, 0, 0);
        x.configure(0, 0, -1, 0);
        x.configure(1, 0, 0, 0);
        x.request(1);
        x.request(1);
        CHECKS.due("dirty(1)", x.dirty(1), 0);
        CHECKS.due("dirty(0)", x.dirty(0), 1);
        CHECKS.due("failures(1)", x.failures(1), 2);
        CHECKS.due("request(1)", x.request(1), -8);
    }

    /** "the one with the greatest number first" */
    private static void closedGreatestNumberFirst() {
        BeanContexts x = new BeanContexts(6);
        x.define(0, 0, 0, 0);
        x.define(1, 0, 0, 0);
        x.configure(0, 0, -1, 0);
        for (int set = 0; set < 4; set++) {
            x.configure(set, 0, 0, 0);
        }
        x.request(2);
        x.request(1);
        x.request(4);
        x.request(3);
        x.request(2);
        int before = x.events();
        CHECKS.due("dirty(0)", x.dirty(0), 5);
        CHECKS.dueEvents("4 to 1, then 0", x, before, 257, 324, 257, 256, 323, 322, 256, 321, 320);
    }

    // Promise 9

    /** "Closes all cached contexts": also when there are none. */
    private static void shutdownOfNone() {
        BeanContexts x = new BeanContexts(3);
        CHECKS.due("shutdown of a new object", x.shutdown(), 0);
        CHECKS.due("define", x.define(0, 0, 0, 0), 0);
        CHECKS.due("configure", x.configure(1, 0, -1, 0), 0);
        CHECKS.due("request", x.request(0), -1);
        CHECKS.due("events()", x.events(), 0);
    }

    /** "always the one with the greatest number next" */
    private static void shutdownOfSix() {
        BeanContexts x = new BeanContexts(6);
        x.define(0, 0, 0, 0);
        x.configure(0, 0, -1, 0);
        x.configure(1, 0, -1, 0);
        x.configure(1, 0, 0, 0);
        x.configure(0, 0, 1, 0);
        x.configure(0, 0, 2, 0);
        x.configure(1, 0, 3, 1);
        for (int i = 0; i < 6; i++) {
            CHECKS.due("request(" + i + ")", x.request(i), i);
        }
        for (int i = 0; i < 6; i++) {
            x.request(5 - i);
        }
        int before = x.events();
        CHECKS.due("shutdown()", x.shutdown(), 6);
        CHECKS.dueEvents("5 to 0", x, before, 256, 325, 324, 323, 256, 322, 256, 321, 320);
        CHECKS.dueCached("none", x);
    }

    private static void shutdownTwice() {
        BeanContexts x = new BeanContexts(3);
        x.define(0, 0, 0, 0);
        x.configure(1, 0, -1, 1);
        x.request(0);
        CHECKS.due("shutdown()", x.shutdown(), 1);
        CHECKS.due("shutdown() again", x.shutdown(), 0);
        CHECKS.due("still nothing can be requested", x.request(0), -1);
        CHECKS.due("its bean is gone", x.stub(0, 1), false);
        CHECKS.dueEvents("of all", x, 0, 64, 128, 256, 320);
    }

    // Promise 17

    /** "(0: the latest); -1 if there is none" */
    private static void cachedPlaces() {
        BeanContexts x = new BeanContexts(6);
        x.define(0, 0, 0, 0);
        x.define(1, 0, 0, 0);
        x.define(2, 0, 0, 0);
        CHECKS.due("cached(0) of none", x.cached(0), -1);
        for (int set = 0; set < 7; set++) {
            x.configure(set, 0, -1, 0);
            x.request(set);
            int last = set < 6 ? set : 5;
            CHECKS.due("cached(0)", x.cached(0), set);
            CHECKS.due("cached(" + last + ")", x.cached(last), set - last);
            CHECKS.due("cached(" + (last + 1) + ")", x.cached(last + 1), -1);
            for (int none : new int[] {-1, LEAST, GREATEST}) {
                CHECKS.due("cached(" + none + ")", x.cached(none), -1);
            }
        }
    }

    // Promise 18

    /** "-1 if there is no such configuration" */
    private static void failuresOfNoConfiguration() {
        BeanContexts x = new BeanContexts(3);
        CHECKS.due("failures(0) of none", x.failures(0), -1);
        for (int i = 0; i < 8; i++) {
            CHECKS.due("failures(" + i + ") before it is there", x.failures(i), -1);
            x.configure(0, 0, -1, 0);
            CHECKS.due("failures(" + i + ")", x.failures(i), 0);
        }
        for (int none : new int[] {-1, 8, LEAST, GREATEST}) {
            CHECKS.due("failures(" + none + ")", x.failures(none), -1);
        }
    }

    /** "How many builds for keys equal to that of the configuration have failed": never three. */
    private static void failuresFromNoneToTwo() {
        BeanContexts x = new BeanContexts(3);
        x.define(0, BROKEN, 0, 0);
        x.configure(1, 0, -1, 0);
        x.configure(3, 1, -1, 0);
        x.configure(1, 0, -1, 1);
        for (int tries = 0; tries < 5; tries++) {
            CHECKS.due("failures(0)", x.failures(0), Math.min(2, tries));
            CHECKS.due("failures(1), an equal key", x.failures(1), Math.min(2, tries));
            CHECKS.due("failures(2), another key", x.failures(2), 0);
            x.request(tries % 2);
        }
        x.shutdown();
        CHECKS.due("failures(0) after shutdown", x.failures(0), 2);
    }

    // Promise 19

    /** "How many events there were": all, not only those that are kept. */
    private static void eventsCountOnBeyondTheKept() {
        BeanContexts x = new BeanContexts(3);
        x.define(0, PROTOTYPE, 0, 0);
        x.configure(1, 0, -1, 0);
        CHECKS.due("events() at first", x.events(), 0);
        x.request(0);
        for (int made = 0; made < 100; made++) {
            CHECKS.due("events()", x.events(), made + 1);
            x.get(0, 0, 0, -1);
        }
        CHECKS.due("events() at last", x.events(), 101);
    }

    /** Uses, looks and answers that are codes without a build are no events. */
    private static void eventsOfCallsWithoutAny() {
        BeanContexts x = new BeanContexts(3);
        x.define(0, 0, 0, 0);
        x.define(1, LAZY + BROKEN, 0, 0);
        x.define(2, BROKEN, 0, 1);
        x.configure(3, 0, -1, 1);
        x.configure(4, 1, 0, 0);
        x.request(1);
        x.request(1);
        int before = x.events();
        x.request(0);
        x.request(1);
        x.get(0, 0, 0, -1);
        x.get(0, 1, 0, -1);
        x.get(0, 5, 0, -1);
        x.call(0, 1);
        x.stub(0, 1);
        x.recorded(0, 0);
        x.reset(0);
        x.wired(0, 0);
        x.definition(0);
        x.cached(0);
        x.failures(0);
        x.key(0);
        x.dirty(1);
        x.configure(0, 0, -1, 0);
        CHECKS.due("events()", x.events(), before);
    }

    // Promise 20

    /** "-1 if k is not 0 .. 31 or there were not so many" */
    private static void eventPlaces() {
        BeanContexts x = new BeanContexts(3);
        x.define(0, PROTOTYPE, 0, 0);
        x.define(1, LAZY, 0, 0);
        x.configure(3, 0, -1, 0);
        CHECKS.due("event(0) of none", x.event(0), -1);
        x.request(0);
        CHECKS.due("event(0) of one", x.event(0), 128);
        CHECKS.due("event(1) of one", x.event(1), -1);
        x.get(0, 1, 0, -1);
        for (int events = 2; events <= 40; events++) {
            int oldest = Math.min(events, 32) - 1;
            int due = events <= 32 ? 128 : events == 33 ? 65 : 64;
            CHECKS.due("event(0) of " + events, x.event(0), events == 2 ? 65 : 64);
            CHECKS.due("event(" + oldest + ") of " + events, x.event(oldest), due);
            CHECKS.due("event(" + (oldest + 1) + ") of " + events, x.event(oldest + 1), -1);
            x.get(0, 0, 0, -1);
        }
        for (int none : new int[] {-1, -32, 32, 33, 40, 64, LEAST, GREATEST}) {
            CHECKS.due("event(" + none + ")", x.event(none), -1);
        }
    }

    /** However many there were, the latest 32 are told, in order. */
    private static void eventWrapsBeyondThirtyTwo() {
        BeanContexts x = new BeanContexts(3);
        for (int type = 0; type < 5; type++) {
            x.define(type, PROTOTYPE, 0, 0);
        }
        x.configure(31, 0, -1, 0);
        x.request(0);
        for (int made = 0; made < 131; made++) {
            x.get(0, made % 5, 0, -1);
        }
        for (int k = 0; k < 32; k++) {
            CHECKS.due("event(" + k + ")", x.event(k), 64 + (130 - k) % 5);
        }
        CHECKS.due("event(32)", x.event(32), -1);
    }

    /** "as 64 * event + n": from the least n to the greatest. */
    private static void eventNumbers() {
        BeanContexts x = new BeanContexts(3);
        for (int i = 0; i < 9; i++) {
            x.define(0, 0, 0, 0);
        }
        x.define(1, BROKEN, 1, 0);
        x.configure(1, 0, -1, 0);
        x.configure(512, 0, -1, 512);
        x.configure(513, 0, -1, 0);
        x.request(0);
        x.dirty(0);
        CHECKS.dueEvents("of definition 0 and context 0", x, 0, 64, 128, 256, 320);
        for (int i = 1; i < 28; i++) {
            x.request(0);
            x.dirty(0);
        }
        int before = x.events();
        x.request(1);
        x.dirty(1);
        CHECKS.dueEvents("of definition 9 and context 28", x, before, 73, 156, 265, 348);
        x.request(2);
        CHECKS.dueEvents("of the failed context 29", x, before + 4, 64, 256, 221);
    }
}
