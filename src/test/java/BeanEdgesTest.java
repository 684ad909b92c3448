/**
 * Promises 10 to 16 and what stands under "Terms" about finding, supplying and calling: each method
 * holds one sentence of the document, on both sides of its boundary.
 */
public final class BeanEdgesTest {
    private static final Checks CHECKS = new Checks("BeanEdgesTest");
    private static final int LEAST = Integer.MIN_VALUE;
    private static final int GREATEST = Integer.MAX_VALUE;
    private static final long NO_ANSWER = 4294967296L;
    private static final int PRIMARY = 1;
    private static final int LAZY = 2;
    private static final int PROTOTYPE = 4;
    private static final int BROKEN = 8;

    public static void main(String[] args) {
        getOfNoConfiguration();
        getWithoutAContext();
        getType();
        getQualifier();
        getName();
        getIsNoUse();
        findNone();
        findNoneInAnyParent();
        findOne();
        findSeveralWithOnePrimary();
        findSeveralPrimary();
        findSeveralByName();
        findSeveralInTheChildEndsTheSearch();
        findPrimaryAmongTheQualifiedOnly();
        supplyOneBeanOnce();
        supplyPrototypesAnew();
        supplyMockedPrototypeOnce();
        supplyCircleOfOne();
        supplyCircleOfTen();
        supplyCircleOfPrototypes();
        supplyCircleIsSeenAtItsFirstTurn();
        supplyNoCircleWithoutTheLastLink();
        supplyNoCircleThroughTheParent();
        supplyNoCircleThroughAMock();
        supplyDeepestRow();
        supplyDeepestCircle();
        supplyCodeOfANeedComesBeforeBroken();
        supplyCodeOfTheFirstNeedComesFirst();
        supplyWhatWasMadeStays();
        supplyTheTwoHundredthBean();
        supplyBrokenComesBeforeTheLimit();
        supplyNeedsComeBeforeTheLimit();
        callOfNoBean();
        callOfABeanThatIsGone();
        callAtTheEndsOfInt();
        callWrapsOnTheWay();
        callOfTheLongestRow();
        callCountsUpToTheLastCall();
        stubOfNoMock();
        stubAtTheEndsOfInt();
        recordedZeroAtFirst();
        recordedWhat();
        recordedOfNoMock();
        resetOfNoConfiguration();
        resetWithoutAContext();
        resetOfNoMocks();
        resetOfAllThirty();
        resetNotBelow();
        wiredNeedsFromNoneToThree();
        wiredOfNoBean();
        wiredOfAMock();
        definitionOfNoBean();
        definitionOfABeanThatIsGone();
        CHECKS.end();
    }

    // Promise 10

    /** "-1 (refused) if there is no such configuration" */
    private static void getOfNoConfiguration() {
        BeanContexts x = new BeanContexts(3);
        CHECKS.due("get(0, ..) of none", x.get(0, 0, 0, -1), -1);
        x = oneBean(0);
        for (int i = 1; i < 8; i++) {
            CHECKS.due("get(" + i + ", ..) before it is there", x.get(i, 0, 0, -1), -1);
            x.configure(1, 0, -1, 0);
            CHECKS.due("get(" + i + ", ..)", x.get(i, 0, 0, -1), 0);
        }
        for (int none : new int[] {-1, 8, LEAST, GREATEST}) {
            CHECKS.due("get(" + none + ", ..)", x.get(none, 0, 0, -1), -1);
        }
    }

    /** One definition of type 0 with the given flags, in the cached context of configuration 0. */
    private static BeanContexts oneBean(int flags) {
        BeanContexts x = new BeanContexts(3);
        x.define(0, flags, 0, 0);
        x.configure(1, 0, -1, 0);
        x.request(0);
        return x;
    }

    /** "no such context is cached" */
    private static void getWithoutAContext() {
        BeanContexts x = new BeanContexts(3);
        x.define(0, 0, 0, 0);
        x.define(1, BROKEN, 0, 0);
        x.configure(1, 0, -1, 0);
        x.configure(2, 0, 0, 0);
        CHECKS.due("never requested", x.get(0, 0, 0, -1), -1);
        x.request(1);
        CHECKS.due("its build has failed", x.get(1, 0, 0, -1), -1);
        CHECKS.due("its parent is cached", x.get(0, 0, 0, -1), 0);
        x.dirty(0);
        CHECKS.due("closed", x.get(0, 0, 0, -1), -1);
        x.request(0);
        CHECKS.due("built anew", x.get(0, 0, 0, -1), 1);
        x.shutdown();
        CHECKS.due("after shutdown", x.get(0, 0, 0, -1), -1);
    }

    /** "or the type .. is none" */
    private static void getType() {
        BeanContexts x = new BeanContexts(3);
        x.define(0, 0, 0, 0);
        x.define(5, 0, 0, 0);
        x.configure(3, 0, -1, 0);
        x.request(0);
        CHECKS.due("type 0", x.get(0, 0, 0, -1), 0);
        CHECKS.due("type 5", x.get(0, 5, 0, -1), 1);
        for (int none : new int[] {-1, 6, 32, LEAST, GREATEST}) {
            CHECKS.due("type " + none, x.get(0, none, 0, -1), -1);
        }
    }

    /** "the qualifier .. is none" */
    private static void getQualifier() {
        BeanContexts x = new BeanContexts(3);
        x.define(0, 0, 1, 0);
        x.define(0, 0, 3, 0);
        x.configure(3, 0, -1, 0);
        x.request(0);
        CHECKS.due("qualifier 0, any one", x.get(0, 0, 0, 1), 1);
        CHECKS.due("qualifier 1", x.get(0, 0, 1, -1), 0);
        CHECKS.due("qualifier 2", x.get(0, 0, 2, -1), -3);
        CHECKS.due("qualifier 3", x.get(0, 0, 3, -1), 1);
        for (int none : new int[] {-1, 4, LEAST, GREATEST}) {
            CHECKS.due("qualifier " + none, x.get(0, 0, none, -1), -1);
        }
    }

    /** "or the name is none" */
    private static void getName() {
        BeanContexts x = new BeanContexts(3);
        for (int i = 0; i < 10; i++) {
            x.define(0, 0, 0, 0);
        }
        x.configure(1023, 0, -1, 0);
        x.request(0);
        CHECKS.due("name -1", x.get(0, 0, 0, -1), -4);
        for (int name = 0; name < 10; name++) {
            CHECKS.due("name " + name, x.get(0, 0, 0, name), name);
        }
        for (int none : new int[] {-2, 10, 31, 32, LEAST, GREATEST}) {
            CHECKS.due("name " + none, x.get(0, 0, 0, none), -1);
        }
    }

    /** "(This is no use.)" */
    private static void getIsNoUse() {
        BeanContexts x = new BeanContexts(3);
        x.define(0, LAZY, 0, 0);
        x.configure(1, 0, -1, 0);
        x.configure(0, 0, 0, 0);
        x.configure(0, 0, -1, 0);
        x.request(1);
        x.request(2);
        CHECKS.due("a bean is made", x.get(1, 0, 0, -1), 0);
        CHECKS.due("it is there", x.get(0, 0, 0, -1), 0);
        CHECKS.dueCached("as before", x, 2, 1, 0);
    }

    /** "without a parent the answer is MISSING" */
    private static void findNone() {
        BeanContexts x = new BeanContexts(3);
        x.extend(1, 0);
        x.define(0, 0, 2, 0);
        x.define(2, 0, 0, 0);
        x.configure(1, 0, -1, 0);
        x.request(0);
        CHECKS.due("one of the type", x.get(0, 0, 0, -1), 0);
        CHECKS.due("none of the type", x.get(0, 3, 0, -1), -3);
        CHECKS.due("one of the type is not in it", x.get(0, 2, 0, -1), -3);
        CHECKS.due("only one of what the type is", x.get(0, 1, 0, -1), -3);
        CHECKS.due("none with the qualifier", x.get(0, 0, 1, -1), -3);
        CHECKS.due("a name is no help", x.get(0, 0, 1, 0), -3);
    }

    /** "If there is none, it is found from c's parent on" */
    private static void findNoneInAnyParent() {
        BeanContexts x = new BeanContexts(3);
        x.define(0, 0, 0, 0);
        x.define(1, 0, 0, 0);
        x.define(2, 0, 0, 0);
        x.configure(1, 0, -1, 0);
        x.configure(2, 0, 0, 0);
        x.configure(4, 0, 1, 0);
        x.request(2);
        CHECKS.due("its own", x.get(2, 2, 0, -1), 2);
        CHECKS.due("its parent's", x.get(2, 1, 0, -1), 1);
        CHECKS.due("two steps above", x.get(2, 0, 0, -1), 0);
        CHECKS.due("nobody's", x.get(2, 3, 0, -1), -3);
        CHECKS.due("never below", x.get(1, 2, 0, -1), -3);
        CHECKS.due("never two steps below", x.get(0, 2, 0, -1), -3);
    }

    /** "If there is one, it is that." */
    private static void findOne() {
        for (int flags : new int[] {0, PRIMARY}) {
            BeanContexts x = oneBean(flags);
            CHECKS.due("without a name", x.get(0, 0, 0, -1), 0);
            CHECKS.due("by its name", x.get(0, 0, 0, 0), 0);
            CHECKS.due("by another name", x.get(0, 0, 0, 9), 0);
        }
    }

    /** "Of several: the only PRIMARY one" */
    private static void findSeveralWithOnePrimary() {
        for (int primary = 0; primary < 3; primary++) {
            BeanContexts x = new BeanContexts(3);
            for (int i = 0; i < 3; i++) {
                x.define(0, i == primary ? PRIMARY : 0, 0, 0);
            }
            x.configure(7, 0, -1, 0);
            x.request(0);
            for (int name = -1; name < 4; name++) {
                CHECKS.due("with name " + name, x.get(0, 0, 0, name), primary);
            }
        }
    }

    /** "if several are primary, the answer is UNCLEAR" */
    private static void findSeveralPrimary() {
        BeanContexts x = new BeanContexts(3);
        x.define(0, PRIMARY, 0, 0);
        x.define(0, PRIMARY, 0, 0);
        x.define(0, 0, 0, 0);
        x.configure(7, 0, -1, 0);
        x.configure(5, 0, -1, 0);
        x.request(0);
        for (int name = -1; name < 4; name++) {
            CHECKS.due("with name " + name, x.get(0, 0, 0, name), -4);
        }
        x.request(1);
        CHECKS.due("with one of the two", x.definition(x.get(1, 0, 0, 2)), 0);
    }

    /** "if none is, the one whose number is the name; if that is none of them, UNCLEAR" */
    private static void findSeveralByName() {
        BeanContexts x = new BeanContexts(3);
        x.define(1, PRIMARY, 0, 0);
        x.define(0, 0, 0, 0);
        x.define(0, 0, 0, 0);
        x.define(0, 0, 0, 0);
        x.configure(7, 0, -1, 0);
        x.request(0);
        CHECKS.due("the one", x.get(0, 0, 0, 1), 1);
        CHECKS.due("the other", x.get(0, 0, 0, 2), 2);
        CHECKS.due("one of another type", x.get(0, 0, 0, 0), -4);
        CHECKS.due("one that is not in it", x.get(0, 0, 0, 3), -4);
        CHECKS.due("one that is not there", x.get(0, 0, 0, 4), -4);
        CHECKS.due("none", x.get(0, 0, 0, -1), -4);
    }

    /** Only where there is no candidate the parent is asked. */
    private static void findSeveralInTheChildEndsTheSearch() {
        BeanContexts x = new BeanContexts(3);
        x.define(0, PRIMARY, 0, 0);
        x.define(0, 0, 0, 0);
        x.define(0, 0, 0, 0);
        x.configure(1, 0, -1, 0);
        x.configure(6, 0, 0, 0);
        x.configure(2, 0, 0, 0);
        x.request(1);
        x.request(2);
        CHECKS.due("unclear in the child", x.get(1, 0, 0, -1), -4);
        CHECKS.due("the parent's name", x.get(1, 0, 0, 0), -4);
        CHECKS.due("one in the child, a primary one above", x.definition(x.get(2, 0, 0, 0)), 1);
    }

    private static void findPrimaryAmongTheQualifiedOnly() {
        BeanContexts x = new BeanContexts(3);
        x.define(0, PRIMARY, 1, 0);
        x.define(0, PRIMARY, 2, 0);
        x.define(0, 0, 2, 0);
        x.define(0, 0, 3, 0);
        x.define(0, 0, 3, 0);
        x.configure(31, 0, -1, 0);
        x.request(0);
        CHECKS.due("two primary ones of any qualifier", x.get(0, 0, 0, 0), -4);
        CHECKS.due("the primary one of two", x.get(0, 0, 2, -1), 1);
        CHECKS.due("two, none of them primary", x.get(0, 0, 3, -1), -4);
        CHECKS.due("by name", x.get(0, 0, 3, 4), 4);
    }

    /** "if d is no prototype, or mocked, and c has a bean of it, that is it" */
    private static void supplyOneBeanOnce() {
        BeanContexts x = new BeanContexts(3);
        x.define(0, LAZY, 0, 0);
        x.configure(1, 0, -1, 0);
        x.configure(1, 0, 0, 0);
        x.request(1);
        CHECKS.due("the first time", x.get(0, 0, 0, -1), 0);
        CHECKS.due("the second time", x.get(0, 0, 0, -1), 0);
        CHECKS.due("of another context", x.get(1, 0, 0, -1), 1);
        CHECKS.due("of that again", x.get(1, 0, 0, -1), 1);
        x.dirty(1);
        x.request(1);
        CHECKS.due("of a new context", x.get(1, 0, 0, -1), 2);
    }

    private static void supplyPrototypesAnew() {
        BeanContexts x = new BeanContexts(3);
        x.define(0, PROTOTYPE, 0, 0);
        x.define(1, 0, 0, 0);
        x.need(1, 0, 0, -1);
        x.need(1, 0, 0, -1);
        x.configure(3, 0, -1, 0);
        x.request(0);
        CHECKS.due("one for the first need", x.wired(2, 0), 0);
        CHECKS.due("one for the second", x.wired(2, 1), 1);
        CHECKS.due("one for the asking", x.get(0, 0, 0, -1), 3);
        CHECKS.due("and another", x.get(0, 0, 0, -1), 4);
    }

    private static void supplyMockedPrototypeOnce() {
        BeanContexts x = new BeanContexts(3);
        x.define(0, PROTOTYPE, 0, 0);
        x.define(1, 0, 0, 0);
        x.need(1, 0, 0, -1);
        x.need(1, 0, 0, -1);
        x.configure(3, 0, -1, 1);
        x.request(0);
        CHECKS.due("for the first need", x.wired(1, 0), 0);
        CHECKS.due("for the second", x.wired(1, 1), 0);
        CHECKS.due("for the asking", x.get(0, 0, 0, -1), 0);
    }

    /** "if d of c is being made already, the answer is CIRCULAR" */
    private static void supplyCircleOfOne() {
        BeanContexts x = new BeanContexts(3);
        x.define(0, LAZY, 0, 0);
        x.need(0, 0, 0, -1);
        x.configure(1, 0, -1, 0);
        x.request(0);
        CHECKS.due("get", x.get(0, 0, 0, -1), -5);
        CHECKS.due("get again", x.get(0, 0, 0, -1), -5);
        CHECKS.due("events()", x.events(), 1);
    }

    private static void supplyCircleOfTen() {
        BeanContexts x = rowOfTen(LAZY);
        x.need(9, 0, 1, -1);
        x.configure(1023, 0, -1, 0);
        x.request(0);
        for (int i = 0; i < 10; i++) {
            CHECKS.due("from " + i, x.get(0, i / 2, 1 + i % 2, -1), -5);
        }
        CHECKS.due("events()", x.events(), 1);
    }

    /** Ten definitions, each of which needs the next one; the tenth needs nothing yet. */
    private static BeanContexts rowOfTen(int flags) {
        BeanContexts x = new BeanContexts(3);
        for (int i = 0; i < 10; i++) {
            x.define(i / 2, flags, 1 + i % 2, 0);
        }
        for (int i = 1; i < 10; i++) {
            x.need(i - 1, i / 2, 1 + i % 2, -1);
        }
        return x;
    }

    private static void supplyCircleOfPrototypes() {
        BeanContexts x = rowOfTen(PROTOTYPE);
        x.need(9, 4, 1, -1);
        x.configure(1023, 0, -1, 0);
        x.request(0);
        CHECKS.due("the circle is at the end of the row", x.get(0, 0, 1, -1), -5);
        CHECKS.due("events()", x.events(), 1);
    }

    /** Each of the circle needs a prototype before the next one: one turn makes one of each. */
    private static void supplyCircleIsSeenAtItsFirstTurn() {
        for (int length = 1; length <= 3; length++) {
            BeanContexts x = new BeanContexts(3);
            x.define(5, PROTOTYPE, 0, 0);
            for (int i = 0; i < length; i++) {
                x.define(i, LAZY, 0, 0);
                x.need(i + 1, 5, 0, -1);
                x.need(i + 1, (i + 1) % length, 0, -1);
            }
            x.configure(15, 0, -1, 0);
            x.request(0);
            CHECKS.due("a circle of " + length, x.get(0, 0, 0, -1), -5);
            CHECKS.due("events() of a circle of " + length, x.events(), 1 + length);
            CHECKS.due("again", x.get(0, 0, 0, -1), -5);
            CHECKS.due("events() of two turns", x.events(), 1 + 2 * length);
        }
    }

    private static void supplyNoCircleWithoutTheLastLink() {
        BeanContexts x = rowOfTen(0);
        x.configure(1023, 0, -1, 0);
        CHECKS.due("request", x.request(0), 0);
        CHECKS.dueEvents("the tenth first", x, 0, 73, 72, 71, 70, 69, 68, 67, 66, 65, 64, 128);
        BeanContexts y = new BeanContexts(3);
        y.define(0, LAZY, 0, 0);
        y.define(1, PROTOTYPE, 0, 0);
        y.define(2, PROTOTYPE, 0, 0);
        y.need(0, 1, 0, -1);
        y.need(0, 1, 0, -1);
        y.need(0, 2, 0, -1);
        y.need(2, 1, 0, -1);
        y.configure(7, 0, -1, 0);
        y.request(0);
        CHECKS.due("a prototype again after it was made", y.get(0, 0, 0, -1), 4);
    }

    /** "d of c": the same definition of the parent is another one. */
    private static void supplyNoCircleThroughTheParent() {
        BeanContexts x = new BeanContexts(3);
        x.define(0, LAZY, 0, 0);
        x.define(1, LAZY, 0, 1);
        x.define(1, LAZY, 0, 2);
        x.define(2, LAZY, 0, 1);
        x.need(0, 1, 0, -1);
        x.need(2, 2, 0, -1);
        x.need(3, 0, 0, -1);
        x.configure(11, 1, -1, 0);
        x.configure(5, 2, 0, 0);
        x.request(1);
        CHECKS.due("0 of the child, 2, 3 of the parent, 0 of the parent, 1", x.get(1, 0, 0, -1), 4);
        for (int bean = 0; bean < 5; bean++) {
            CHECKS.due("definition(" + bean + ")", x.definition(bean), new int[] {1, 0, 3, 2, 0}[bean]);
        }
    }

    /** "if d is mocked, it is a MOCK", whatever it needs */
    private static void supplyNoCircleThroughAMock() {
        BeanContexts x = rowOfTen(0);
        x.need(9, 0, 1, -1);
        x.configure(1023, 0, -1, 0);
        x.configure(1023, 0, -1, 1);
        x.configure(1023, 0, -1, 512);
        CHECKS.due("without a mock", x.request(0), -5);
        CHECKS.due("the first mocked", x.request(1), 1);
        CHECKS.dueEvents("of it", x, 1, 64, 73, 72, 71, 70, 69, 68, 67, 66, 65, 129);
        CHECKS.due("the last mocked", x.request(2), 2);
    }

    /**
     * A ring of all ten in three contexts: 1 to 9 of the child, 0 to 8 of its parent, then 9 and 0 to 7
     * of the farthest, whose 8 is a mock, are being made at once, and none of them twice.
     */
    private static void supplyDeepestRow() {
        BeanContexts x = ringInThreeContexts(256);
        CHECKS.due("the mock", x.stub(0, 1000), true);
        CHECKS.due("the first of 27", x.get(2, 0, 2, -1), 27);
        for (int bean = 1; bean < 28; bean++) {
            CHECKS.due("wired(" + bean + ", 0)", x.wired(bean, 0), bean - 1);
            CHECKS.due("definition(" + bean + ")", x.definition(bean), madeAt(bean));
        }
        CHECKS.due("call", x.call(27, 5), 45 + 36 + 37 + 1000);
        CHECKS.due("the mock's last", x.recorded(0, 1), 5 + 27);
    }

    /** The definition of a bean of the deepest row: the last link was made first. */
    private static int madeAt(int bean) {
        int link = 27 - bean;
        return link < 9 ? 1 + link : link < 18 ? link - 9 : (link - 18 + 9) % 10;
    }

    private static BeanContexts ringInThreeContexts(int mocks) {
        BeanContexts x = rowOfTen(LAZY);
        x.need(9, 0, 1, -1);
        x.configure(1023, 0, -1, mocks);
        x.configure(1023 - 512, 0, 0, 0);
        x.configure(1023 - 1, 0, 1, 0);
        CHECKS.due("request", x.request(2), 2);
        return x;
    }

    /** The same without the mock: after 28 steps the ring is closed. */
    private static void supplyDeepestCircle() {
        BeanContexts x = ringInThreeContexts(0);
        CHECKS.due("the first of 28", x.get(2, 0, 2, -1), -5);
        CHECKS.due("events()", x.events(), 3);
    }

    /** "if one of these answers a code, this is the answer; then, if d is BROKEN, .." */
    private static void supplyCodeOfANeedComesBeforeBroken() {
        BeanContexts x = new BeanContexts(3);
        x.define(0, LAZY + BROKEN, 0, 0);
        x.define(1, LAZY + BROKEN, 0, 0);
        x.define(2, LAZY, 0, 0);
        x.need(0, 5, 0, -1);
        x.need(1, 2, 0, -1);
        x.configure(7, 0, -1, 0);
        x.request(0);
        CHECKS.due("its need is missing", x.get(0, 0, 0, -1), -3);
        CHECKS.due("its need is there", x.get(0, 1, 0, -1), -6);
        CHECKS.dueEvents("the need was made", x, 1, 66);
    }

    private static void supplyCodeOfTheFirstNeedComesFirst() {
        for (int first = 0; first < 3; first++) {
            BeanContexts x = new BeanContexts(3);
            x.define(0, LAZY, 0, 0);
            x.define(1, LAZY + BROKEN, 0, 0);
            for (int k = 0; k < 3; k++) {
                x.need(0, new int[] {5, 1, 0}[(first + k) % 3], 0, -1);
            }
            x.configure(3, 0, -1, 0);
            x.request(0);
            CHECKS.due("the first need's code", x.get(0, 0, 0, -1), new int[] {-3, -6, -5}[first]);
        }
    }

    /** "(What was made for a bean that can not be made stays ..)" */
    private static void supplyWhatWasMadeStays() {
        BeanContexts x = new BeanContexts(3);
        x.define(0, LAZY, 0, 0);
        x.define(1, LAZY, 0, 0);
        x.define(2, PROTOTYPE, 0, 0);
        x.need(0, 1, 0, -1);
        x.need(0, 2, 0, -1);
        x.need(0, 5, 0, -1);
        x.configure(7, 0, -1, 0);
        x.request(0);
        CHECKS.due("get", x.get(0, 0, 0, -1), -3);
        CHECKS.dueEvents("two were made, none destroyed", x, 1, 65, 66);
        CHECKS.due("the one lives", x.get(0, 1, 0, -1), 0);
        CHECKS.due("the prototype lives", x.call(1, 5), 7);
        CHECKS.dueCached("the context too", x, 0);
        CHECKS.due("failures", x.failures(0), 0);
    }

    /** "if 200 beans were made, the answer is LIMIT" */
    private static void supplyTheTwoHundredthBean() {
        BeanContexts x = afterBeans(199);
        CHECKS.due("the last one", x.get(0, 0, 0, -1), 199);
        int before = x.events();
        CHECKS.due("one more", x.get(0, 0, 0, -1), -7);
        CHECKS.due("and again", x.get(0, 0, 0, -1), -7);
        CHECKS.due("what is there is supplied", x.get(0, 5, 0, -1), 0);
        CHECKS.due("events()", x.events(), before);
        CHECKS.due("the last one lives", x.call(199, 7), 7);
        CHECKS.due("there is none behind it", x.call(200, 7), NO_ANSWER);
    }

    /**
     * So many beans: one of definition 1, which is of type 5, then prototypes. 2 is broken, 3 needs
     * what is missing, 4 needs a prototype.
     */
    private static BeanContexts afterBeans(int beans) {
        BeanContexts x = new BeanContexts(3);
        x.define(0, PROTOTYPE, 0, 0);
        x.define(5, 0, 0, 0);
        x.define(1, LAZY + BROKEN, 0, 0);
        x.define(2, LAZY, 0, 0);
        x.define(3, LAZY, 0, 0);
        x.need(3, 4, 0, -1);
        x.need(4, 0, 0, -1);
        x.configure(31, 0, -1, 0);
        x.request(0);
        for (int bean = 1; bean < beans; bean++) {
            x.get(0, 0, 0, -1);
        }
        CHECKS.due("events() of so many", x.events(), beans + 1);
        return x;
    }

    /** "In either case, at last, if 200 beans were made, .." */
    private static void supplyBrokenComesBeforeTheLimit() {
        BeanContexts x = afterBeans(200);
        CHECKS.due("a broken one", x.get(0, 1, 0, -1), -6);
        CHECKS.due("one whose need is missing", x.get(0, 2, 0, -1), -3);
        CHECKS.due("one whose need can not be made", x.get(0, 3, 0, -1), -7);
    }

    private static void supplyNeedsComeBeforeTheLimit() {
        BeanContexts x = afterBeans(199);
        CHECKS.due("its need is the last one", x.get(0, 3, 0, -1), -7);
        CHECKS.due("which stays", x.definition(199), 0);
        BeanContexts y = afterBeans(198);
        CHECKS.due("it is the last one itself", y.get(0, 3, 0, -1), 199);
        CHECKS.due("with its need", y.wired(199, 0), 198);
        CHECKS.due("and is supplied again", y.get(0, 3, 0, -1), 199);
    }

    // Promise 11

    /** "4294967296 (refused) if there is no such bean" */
    private static void callOfNoBean() {
        BeanContexts x = new BeanContexts(3);
        CHECKS.due("call(0, 0) of none", x.call(0, 0), NO_ANSWER);
        x = oneBean(PROTOTYPE);
        for (int bean = 0; bean < 4; bean++) {
            CHECKS.due("call(" + bean + ", 9) before it is there", x.call(bean, 9), NO_ANSWER);
            x.get(0, 0, 0, -1);
            CHECKS.due("call(" + bean + ", 9)", x.call(bean, 9), 9);
        }
        for (int none : new int[] {-1, 4, 199, 200, LEAST, GREATEST}) {
            CHECKS.due("call(" + none + ", 9)", x.call(none, 9), NO_ANSWER);
        }
    }

    /** "or it is gone": by dirty, by giving way, by shutdown, by a failed build */
    private static void callOfABeanThatIsGone() {
        BeanContexts x = oneBean(0);
        CHECKS.due("before dirty", x.call(0, 1), 1);
        x.dirty(0);
        CHECKS.due("after dirty", x.call(0, 1), NO_ANSWER);
        x.request(0);
        for (int i = 1; i < 4; i++) {
            CHECKS.due("while there is room", x.call(1, 1), 1);
            x.configure(0, 0, i == 1 ? -1 : i - 1, 0);
            x.request(i);
        }
        CHECKS.due("after giving way", x.call(1, 1), NO_ANSWER);
        x.request(0);
        CHECKS.due("before shutdown", x.call(2, 1), 1);
        x.shutdown();
        CHECKS.due("after shutdown", x.call(2, 1), NO_ANSWER);
        BeanContexts y = new BeanContexts(3);
        y.define(0, 0, 0, 0);
        y.define(1, BROKEN, 0, 0);
        y.configure(3, 0, -1, 0);
        y.request(0);
        CHECKS.due("after a failed build", y.call(0, 1), NO_ANSWER);
    }

    /** "its definition's number added to .. x (all this wraps)" */
    private static void callAtTheEndsOfInt() {
        BeanContexts x = new BeanContexts(3);
        x.define(0, 0, 0, 0);
        x.define(1, 0, 0, 0);
        x.configure(3, 0, -1, 0);
        x.request(0);
        CHECKS.due("0 added to the greatest", x.call(0, GREATEST), GREATEST);
        CHECKS.due("0 added to the least", x.call(0, LEAST), LEAST);
        CHECKS.due("1 added, no wrap yet", x.call(1, GREATEST - 1), GREATEST);
        CHECKS.due("1 added, wrapped", x.call(1, GREATEST), LEAST);
        CHECKS.due("1 added to the least", x.call(1, LEAST), LEAST + 1L);
        CHECKS.due("1 added to -1", x.call(1, -1), 0);
    }

    /** "what the bean of its first need answers when called with x + 1" */
    private static void callWrapsOnTheWay() {
        BeanContexts x = new BeanContexts(3);
        x.define(0, 0, 0, 0);
        x.define(1, 0, 0, 0);
        x.need(1, 0, 0, -1);
        x.configure(3, 0, -1, 1);
        x.request(0);
        CHECKS.due("x + 1, no wrap yet", x.call(1, GREATEST - 1), 1);
        CHECKS.due("the mock's last", x.recorded(0, 1), GREATEST);
        CHECKS.due("x + 1, wrapped", x.call(1, GREATEST), 1);
        CHECKS.due("the mock's last", x.recorded(0, 1), LEAST);
        x.stub(0, GREATEST - 1);
        CHECKS.due("the sum, no wrap yet", x.call(1, 0), GREATEST);
        x.stub(0, GREATEST);
        CHECKS.due("the sum, wrapped", x.call(1, 0), LEAST);
    }

    private static void callOfTheLongestRow() {
        BeanContexts x = rowOfTen(0);
        x.configure(1023, 0, -1, 0);
        x.configure(1023, 0, -1, 512);
        x.request(0);
        CHECKS.due("nine steps down", x.call(9, 100), 154);
        CHECKS.due("nine steps, no wrap yet", x.call(9, GREATEST - 54), GREATEST);
        CHECKS.due("nine steps, wrapped", x.call(9, GREATEST - 53), LEAST);
        x.request(1);
        x.stub(10, 1000);
        CHECKS.due("nine steps down to a mock", x.call(19, 100), 1036);
        CHECKS.due("the mock's last", x.recorded(10, 1), 109);
    }

    /** "An object is used for at most 512 calls": six make the beans, two look at the end. */
    private static void callCountsUpToTheLastCall() {
        BeanContexts x = mockAndBean();
        for (int i = 0; i < 504; i++) {
            x.call(i % 2, i);
        }
        CHECKS.due("count, the 511th call", x.recorded(0, 0), 504);
        CHECKS.due("last, the 512th call", x.recorded(0, 1), 504);
    }

    /** Bean 0 is a mock, bean 1 needs it, bean 2 needs nothing. */
    private static BeanContexts mockAndBean() {
        BeanContexts x = new BeanContexts(3);
        x.define(0, 0, 0, 0);
        x.define(1, 0, 0, 0);
        x.define(2, 0, 0, 0);
        x.need(1, 0, 0, -1);
        x.configure(7, 0, -1, 1);
        x.request(0);
        return x;
    }

    // Promises 12 and 13

    /** "false (refused) if there is no such bean, it is gone, or no mock" */
    private static void stubOfNoMock() {
        CHECKS.due("stub(0, 1) of none", new BeanContexts(3).stub(0, 1), false);
        BeanContexts x = mockAndBean();
        CHECKS.due("stub(0, 1)", x.stub(0, 1), true);
        CHECKS.due("stub(1, 1), no mock", x.stub(1, 1), false);
        CHECKS.due("stub(2, 1), no mock", x.stub(2, 1), false);
        for (int none : new int[] {-1, 3, 200, LEAST, GREATEST}) {
            CHECKS.due("stub(" + none + ", 1)", x.stub(none, 1), false);
        }
        x.dirty(0);
        CHECKS.due("stub(0, 1), gone", x.stub(0, 1), false);
        x.request(0);
        CHECKS.due("stub(0, 1), still gone", x.stub(0, 1), false);
        CHECKS.due("stub(3, 1), the new one", x.stub(3, 1), true);
    }

    /** "Sets the answer of a mock": any int is one. */
    private static void stubAtTheEndsOfInt() {
        BeanContexts x = mockAndBean();
        for (int answer : new int[] {LEAST, -8, -1, 0, 1, GREATEST}) {
            CHECKS.due("stub(0, " + answer + ")", x.stub(0, answer), true);
            CHECKS.due("call(0, 0)", x.call(0, 0), answer);
        }
    }

    /** "A mock has an ANSWER, a COUNT and a LAST, 0 at first." */
    private static void recordedZeroAtFirst() {
        BeanContexts x = mockAndBean();
        CHECKS.due("count", x.recorded(0, 0), 0);
        CHECKS.due("last", x.recorded(0, 1), 0);
        CHECKS.due("answer", x.call(0, 7), 0);
        x.stub(0, 5);
        x.dirty(0);
        x.request(0);
        CHECKS.due("count of a new one", x.recorded(3, 0), 0);
        CHECKS.due("last of a new one", x.recorded(3, 1), 0);
        CHECKS.due("answer of a new one", x.call(3, 7), 0);
    }

    /** "or what is neither" */
    private static void recordedWhat() {
        BeanContexts x = mockAndBean();
        x.call(0, LEAST);
        CHECKS.due("recorded(0, 0)", x.recorded(0, 0), 1);
        CHECKS.due("recorded(0, 1)", x.recorded(0, 1), LEAST);
        for (int none : new int[] {-1, 2, LEAST, GREATEST}) {
            CHECKS.due("recorded(0, " + none + ")", x.recorded(0, none), NO_ANSWER);
        }
        x.call(0, GREATEST);
        CHECKS.due("recorded(0, 1)", x.recorded(0, 1), GREATEST);
    }

    /** "4294967296 if there is no such bean, it is gone, or no mock" */
    private static void recordedOfNoMock() {
        CHECKS.due("recorded(0, 0) of none", new BeanContexts(3).recorded(0, 0), NO_ANSWER);
        BeanContexts x = mockAndBean();
        for (int what = 0; what < 2; what++) {
            CHECKS.due("recorded of no mock", x.recorded(1, what), NO_ANSWER);
            for (int none : new int[] {-1, 3, 200, LEAST, GREATEST}) {
                CHECKS.due("recorded(" + none + ", " + what + ")", x.recorded(none, what), NO_ANSWER);
            }
        }
        x.dirty(0);
        CHECKS.due("count of one that is gone", x.recorded(0, 0), NO_ANSWER);
        CHECKS.due("last of one that is gone", x.recorded(0, 1), NO_ANSWER);
    }

    // Promise 14

    /** "-1 (refused) if there is no such configuration" */
    private static void resetOfNoConfiguration() {
        CHECKS.due("reset(0) of none", new BeanContexts(3).reset(0), -1);
        BeanContexts x = mockAndBean();
        for (int i = 1; i < 8; i++) {
            CHECKS.due("reset(" + i + ") before it is there", x.reset(i), -1);
            x.configure(7, 0, -1, 1);
            CHECKS.due("reset(" + i + ")", x.reset(i), 1);
        }
        for (int none : new int[] {-1, 8, LEAST, GREATEST}) {
            CHECKS.due("reset(" + none + ")", x.reset(none), -1);
        }
    }

    /** "or no such context is cached" */
    private static void resetWithoutAContext() {
        BeanContexts x = new BeanContexts(3);
        x.define(0, 0, 0, 0);
        x.define(1, BROKEN, 0, 0);
        x.configure(1, 0, -1, 1);
        x.configure(2, 0, 0, 0);
        CHECKS.due("never requested", x.reset(0), -1);
        x.request(1);
        CHECKS.due("its build has failed", x.reset(1), -1);
        CHECKS.due("its parent is cached", x.reset(0), 1);
        x.dirty(0);
        CHECKS.due("closed", x.reset(0), -1);
        x.request(0);
        CHECKS.due("built anew: what is gone is no mock of it", x.reset(0), 1);
        x.shutdown();
        CHECKS.due("after shutdown", x.reset(0), -1);
    }

    private static void resetOfNoMocks() {
        BeanContexts x = new BeanContexts(3);
        x.define(0, 0, 0, 0);
        x.configure(1, 0, -1, 0);
        x.configure(0, 0, 0, 0);
        x.configure(1, 0, 1, 1);
        x.request(2);
        CHECKS.due("a bean, no mock", x.reset(0), 0);
        CHECKS.due("nothing at all", x.reset(1), 0);
        CHECKS.due("one mock", x.reset(2), 1);
    }

    /** "and of its ancestors": the most mocks that there can be. */
    private static void resetOfAllThirty() {
        BeanContexts x = new BeanContexts(3);
        for (int i = 0; i < 10; i++) {
            x.define(0, 0, 0, 0);
        }
        x.configure(1023, 0, -1, 1023);
        x.configure(1023, 0, 0, 1023);
        x.configure(1023, 0, 1, 1023);
        x.request(2);
        for (int bean = 0; bean < 30; bean++) {
            x.stub(bean, 7);
            x.call(bean, 8);
        }
        CHECKS.due("reset(2)", x.reset(2), 30);
        for (int bean = 0; bean < 30; bean++) {
            CHECKS.due("count of " + bean, x.recorded(bean, 0), 0);
            CHECKS.due("last of " + bean, x.recorded(bean, 1), 0);
            CHECKS.due("answer of " + bean, x.call(bean, 1), 0);
        }
        CHECKS.due("reset(1)", x.reset(1), 20);
        CHECKS.due("reset(0)", x.reset(0), 10);
        CHECKS.due("reset(0) again", x.reset(0), 10);
    }

    private static void resetNotBelow() {
        BeanContexts x = new BeanContexts(4);
        x.define(0, 0, 0, 0);
        x.configure(1, 0, -1, 1);
        x.configure(1, 0, 0, 1);
        x.configure(1, 0, 1, 1);
        x.configure(1, 1, 0, 0);
        x.request(2);
        x.request(3);
        for (int bean = 0; bean < 3; bean++) {
            x.stub(bean, 7);
            x.call(bean, 8);
        }
        CHECKS.due("the middle one and the farthest", x.reset(1), 2);
        CHECKS.due("count of the farthest", x.recorded(0, 0), 0);
        CHECKS.due("count of the middle one", x.recorded(1, 0), 0);
        CHECKS.due("count of the one below", x.recorded(2, 0), 1);
        CHECKS.due("last of the one below", x.recorded(2, 1), 8);
        CHECKS.due("answer of the one below", x.call(2, 1), 7);
        x.stub(1, 9);
        CHECKS.due("by one beside it", x.reset(3), 1);
        CHECKS.due("answer of the middle one", x.call(1, 1), 9);
    }

    // Promise 15

    /** "need k (0 .. 2)", "or it has no such need" */
    private static void wiredNeedsFromNoneToThree() {
        BeanContexts x = new BeanContexts(3);
        x.define(5, PROTOTYPE, 0, 0);
        for (int needs = 0; needs < 4; needs++) {
            x.define(needs, LAZY, 0, 0);
            for (int k = 0; k < needs; k++) {
                x.need(needs + 1, 5, 0, -1);
            }
        }
        x.configure(31, 0, -1, 0);
        x.request(0);
        for (int needs = 0; needs < 4; needs++) {
            int bean = x.get(0, needs, 0, -1);
            for (int k = 0; k < 4; k++) {
                CHECKS.due("wired " + k + " of " + needs, x.wired(bean, k), k < needs ? bean - needs + k : -1);
            }
            for (int none : new int[] {-1, LEAST, GREATEST}) {
                CHECKS.due("wired " + none + " of " + needs, x.wired(bean, none), -1);
            }
        }
    }

    /** "-1 if there is no such bean, it is gone .." */
    private static void wiredOfNoBean() {
        CHECKS.due("wired(0, 0) of none", new BeanContexts(3).wired(0, 0), -1);
        BeanContexts x = mockAndBean();
        CHECKS.due("wired(1, 0)", x.wired(1, 0), 0);
        for (int none : new int[] {-1, 3, 200, LEAST, GREATEST}) {
            CHECKS.due("wired(" + none + ", 0)", x.wired(none, 0), -1);
        }
        x.dirty(0);
        CHECKS.due("wired(1, 0), gone", x.wired(1, 0), -1);
    }

    /** ".. or a mock": also one whose definition has needs. */
    private static void wiredOfAMock() {
        BeanContexts x = new BeanContexts(3);
        x.define(0, 0, 0, 0);
        x.define(1, 0, 0, 0);
        x.need(1, 0, 0, -1);
        x.configure(3, 0, -1, 2);
        x.configure(3, 0, -1, 0);
        x.request(0);
        CHECKS.due("of the mock", x.wired(1, 0), -1);
        x.request(1);
        CHECKS.due("of the bean", x.wired(3, 0), 2);
    }

    // Promise 16

    /** "-1 if there is no such bean" */
    private static void definitionOfNoBean() {
        CHECKS.due("definition(0) of none", new BeanContexts(3).definition(0), -1);
        BeanContexts x = mockAndBean();
        for (int bean = 0; bean < 3; bean++) {
            CHECKS.due("definition(" + bean + ")", x.definition(bean), bean);
        }
        for (int none : new int[] {-1, 3, 199, 200, LEAST, GREATEST}) {
            CHECKS.due("definition(" + none + ")", x.definition(none), -1);
        }
    }

    /** "or it is gone": "All its beans, prototypes too, are GONE, as are those of failed builds." */
    private static void definitionOfABeanThatIsGone() {
        BeanContexts x = new BeanContexts(3);
        x.define(0, 0, 0, 0);
        x.define(1, PROTOTYPE, 0, 0);
        x.define(2, BROKEN, 0, 1);
        x.need(2, 1, 0, -1);
        x.configure(7, 0, -1, 0);
        x.configure(7, 1, -1, 0);
        x.request(0);
        x.get(0, 1, 0, -1);
        x.request(1);
        CHECKS.due("a bean of a failed build", x.definition(2), -1);
        CHECKS.due("a prototype of a failed build", x.definition(3), -1);
        CHECKS.due("a bean", x.definition(0), 0);
        CHECKS.due("a prototype", x.definition(1), 1);
        x.dirty(0);
        CHECKS.due("a bean that is gone", x.definition(0), -1);
        CHECKS.due("a prototype that is gone", x.definition(1), -1);
        x.request(0);
        CHECKS.due("its number is not used again", x.definition(0), -1);
        CHECKS.due("the new one has the next", x.definition(4), 0);
    }
}
