/**
 * Promises 1 to 6 and the limits under "Terms" to which they refer: each method holds one sentence of
 * the document, at the last value that is taken and at the first that is not.
 */
public final class DefiningEdgesTest {
    private static final Checks CHECKS = new Checks("DefiningEdgesTest");
    private static final int LEAST = Integer.MIN_VALUE;
    private static final int GREATEST = Integer.MAX_VALUE;
    private static final int PRIMARY = 1;
    private static final int LAZY = 2;
    private static final int PROTOTYPE = 4;
    private static final int BROKEN = 8;

    public static void main(String[] args) {
        newObjectNothingIsDefined();
        newObjectNoContexts();
        capacityLesserCountsAsThree();
        capacityThreeToSix();
        capacityGreaterCountsAsSix();
        extendTypeTooSmall();
        extendTypeTooLarge();
        extendATypeIsItself();
        extendBIsA();
        extendBIsAOverFiveSteps();
        extendAIsBAlready();
        extendAIsBAlreadyOverFiveSteps();
        extendFromTheLeastToTheGreatest();
        extendTwoOfOneKind();
        extendEveryTypeOnce();
        extendOnceAConfigurationIsThere();
        defineType();
        defineFlags();
        defineEachFlagAlone();
        defineAllFlags();
        defineQualifier();
        defineProfile();
        defineTenAreThere();
        defineOnceAConfigurationIsThere();
        needOfNoDefinition();
        needOfTheTenthDefinition();
        needType();
        needQualifier();
        needName();
        needThreeAreThere();
        needThreeOfEachDefinition();
        needOnceAConfigurationIsThere();
        needQualifierZeroIsAny();
        needNameOfTheTenth();
        configureProfile();
        configureParentIsEarlier();
        configureParentThatCanBeNone();
        configureEightAreThere();
        configureEmptySet();
        configureFullSet();
        configureNumbersThatAreNoDefinitions();
        configureMocksThatAreNotInIt();
        configureProfileOfADefinition();
        configureIsNeverTooLate();
        keyOfNoConfiguration();
        keyIsTheLeastNumber();
        keyEachPartCounts();
        keyOfTheParentCounts();
        CHECKS.end();
    }

    // Promise 1

    /** "Nothing defined": every number begins at 0, every type stands alone. */
    private static void newObjectNothingIsDefined() {
        BeanContexts x = new BeanContexts(3);
        CHECKS.due("need on a new object", x.need(0, 0, 0, -1), false);
        CHECKS.due("key on a new object", x.key(0), -1);
        CHECKS.due("failures on a new object", x.failures(0), -1);
        CHECKS.due("the first definition", x.define(0, 0, 0, 0), 0);
        CHECKS.due("the first configuration", x.configure(1, 0, -1, 0), 0);
        CHECKS.due("the first context", x.request(0), 0);
        CHECKS.due("the first bean", x.get(0, 0, 0, -1), 0);
        for (int type = 1; type < 6; type++) {
            CHECKS.due("type 0 is no other at first", x.get(0, type, 0, -1), -3);
        }
    }

    /** "no contexts" */
    private static void newObjectNoContexts() {
        BeanContexts x = new BeanContexts(6);
        CHECKS.due("cached(0)", x.cached(0), -1);
        CHECKS.due("events()", x.events(), 0);
        CHECKS.due("event(0)", x.event(0), -1);
        CHECKS.due("definition(0)", x.definition(0), -1);
        CHECKS.due("shutdown()", x.shutdown(), 0);
        CHECKS.due("events() after it", x.events(), 0);
    }

    /** "a lesser one counts as 3" */
    private static void capacityLesserCountsAsThree() {
        for (int capacity : new int[] {2, 1, 0, -1, -3, LEAST}) {
            capacityCountsAs(capacity, 3);
        }
    }

    /** "The capacity is 3 .. 6" */
    private static void capacityThreeToSix() {
        for (int capacity = 3; capacity <= 6; capacity++) {
            capacityCountsAs(capacity, capacity);
        }
    }

    /** "a greater one as 6" */
    private static void capacityGreaterCountsAsSix() {
        for (int capacity : new int[] {7, 8, 60, GREATEST}) {
            capacityCountsAs(capacity, 6);
        }
    }

    /** Full: the last one that fits displaces none, the next one displaces the first. */
    private static void capacityCountsAs(int capacity, int room) {
        BeanContexts x = new BeanContexts(capacity);
        for (int i = 0; i < 7; i++) {
            x.define(0, LAZY, 0, 0);
        }
        for (int i = 0; i < 7; i++) {
            x.configure(1 << i, 0, -1, 0);
        }
        for (int i = 0; i < room; i++) {
            x.request(i);
        }
        String with = " with capacity " + capacity;
        CHECKS.due("events() when full" + with, x.events(), room);
        CHECKS.due("the first one is the last" + with, x.cached(room - 1), 0);
        x.request(room);
        CHECKS.dueEvents("when one more comes" + with, x, room, 320, 128 + room);
        CHECKS.due("the second one is the last" + with, x.cached(room - 1), 1);
        CHECKS.due("none behind it" + with, x.cached(room), -1);
    }

    // Promise 2

    /** "TYPES are 0 .. 5", "false (refused) if one is no type" */
    private static void extendTypeTooSmall() {
        BeanContexts x = new BeanContexts(3);
        for (int none : new int[] {-1, -2, LEAST}) {
            CHECKS.due("extend(" + none + ", 1)", x.extend(none, 1), false);
            CHECKS.due("extend(1, " + none + ")", x.extend(1, none), false);
            CHECKS.due("extend(" + none + ", " + none + ")", x.extend(none, none), false);
        }
        CHECKS.due("extend(0, 1)", x.extend(0, 1), true);
        CHECKS.due("extend(2, 0)", x.extend(2, 0), true);
    }

    private static void extendTypeTooLarge() {
        BeanContexts x = new BeanContexts(3);
        for (int none : new int[] {6, 7, 32, 33, GREATEST}) {
            CHECKS.due("extend(" + none + ", 1)", x.extend(none, 1), false);
            CHECKS.due("extend(1, " + none + ")", x.extend(1, none), false);
            CHECKS.due("extend(" + none + ", " + none + ")", x.extend(none, none), false);
        }
        CHECKS.due("extend(5, 1)", x.extend(5, 1), true);
        CHECKS.due("extend(2, 5)", x.extend(2, 5), true);
    }

    /** "A type IS itself" */
    private static void extendATypeIsItself() {
        BeanContexts x = new BeanContexts(6);
        for (int type = 0; type < 6; type++) {
            CHECKS.due("extend(" + type + ", itself)", x.extend(type, type), false);
            x.define(type, LAZY, 0, 0);
        }
        for (int type = 0; type < 6; type++) {
            x.configure(1 << type, 0, -1, 0);
            x.request(type);
            for (int other = 0; other < 6; other++) {
                boolean fits = x.get(type, other, 0, -1) != -3;
                CHECKS.due("type " + type + " is " + other, fits, type == other);
            }
        }
    }

    /** "b is a (in the sense of IS)" */
    private static void extendBIsA() {
        BeanContexts x = new BeanContexts(3);
        x.extend(3, 4);
        CHECKS.due("extend(4, 3), as 3 is 4", x.extend(4, 3), false);
        CHECKS.due("extend(4, 2), as 2 is not", x.extend(4, 2), true);
    }

    private static void extendBIsAOverFiveSteps() {
        BeanContexts x = chainOfSix();
        CHECKS.due("extend(0, 5), as 5 is 0", x.extend(0, 5), false);
        CHECKS.due("extend(1, 5), as 5 is 1", x.extend(1, 5), false);
        BeanContexts y = new BeanContexts(3);
        y.extend(4, 3);
        y.extend(3, 2);
        y.extend(2, 1);
        CHECKS.due("extend(1, 5), as 5 is nothing else", y.extend(1, 5), true);
        CHECKS.due("extend(5, 4), as 4 is 5 by now", y.extend(5, 4), false);
    }

    /** "a is b already" */
    private static void extendAIsBAlready() {
        BeanContexts x = new BeanContexts(3);
        CHECKS.due("extend(3, 4)", x.extend(3, 4), true);
        CHECKS.due("extend(3, 4) again", x.extend(3, 4), false);
        CHECKS.due("extend(3, 5)", x.extend(3, 5), true);
    }

    private static void extendAIsBAlreadyOverFiveSteps() {
        BeanContexts x = chainOfSix();
        CHECKS.due("extend(5, 0), as 5 is 0", x.extend(5, 0), false);
        CHECKS.due("extend(5, 1), as 5 is 1", x.extend(5, 1), false);
        CHECKS.due("extend(4, 0), as 4 is 0", x.extend(4, 0), false);
        x.define(5, 0, 0, 0);
        x.configure(1, 0, -1, 0);
        x.request(0);
        for (int type = 0; type < 6; type++) {
            CHECKS.due("5 is " + type, x.get(0, type, 0, -1), 0);
        }
    }

    /** Each type extends the one before it; the middle links come last, so that chains are joined. */
    private static BeanContexts chainOfSix() {
        BeanContexts x = new BeanContexts(3);
        CHECKS.due("extend(5, 4)", x.extend(5, 4), true);
        CHECKS.due("extend(1, 0)", x.extend(1, 0), true);
        CHECKS.due("extend(3, 2)", x.extend(3, 2), true);
        CHECKS.due("extend(2, 1)", x.extend(2, 1), true);
        CHECKS.due("extend(4, 3)", x.extend(4, 3), true);
        return x;
    }

    /** The other way round: each type is all those with greater numbers. */
    private static void extendFromTheLeastToTheGreatest() {
        BeanContexts x = new BeanContexts(6);
        for (int type = 4; type >= 0; type--) {
            CHECKS.due("extend(" + type + ", the next)", x.extend(type, type + 1), true);
        }
        CHECKS.due("extend(0, 5), as 0 is 5", x.extend(0, 5), false);
        CHECKS.due("extend(5, 0), as 0 is 5", x.extend(5, 0), false);
        for (int type = 0; type < 6; type++) {
            x.define(type, LAZY, 0, 0);
        }
        for (int type = 0; type < 6; type++) {
            x.configure(1 << type, 0, -1, 0);
            x.request(type);
            for (int other = 0; other < 6; other++) {
                boolean fits = x.get(type, other, 0, -1) != -3;
                CHECKS.due("type " + type + " is " + other, fits, type <= other);
            }
        }
    }

    /** Two that are the same third one are not one another. */
    private static void extendTwoOfOneKind() {
        BeanContexts x = new BeanContexts(3);
        x.extend(1, 0);
        x.extend(2, 0);
        CHECKS.due("extend(1, 2)", x.extend(1, 2), true);
        CHECKS.due("extend(2, 1)", x.extend(2, 1), false);
        x.define(2, 0, 0, 0);
        x.configure(1, 0, -1, 0);
        x.request(0);
        CHECKS.due("2 is 0", x.get(0, 0, 0, -1), 0);
        CHECKS.due("2 is not 1", x.get(0, 1, 0, -1), -3);
    }

    /** As many as there can be: of each pair of types one is the other. */
    private static void extendEveryTypeOnce() {
        BeanContexts x = new BeanContexts(3);
        for (int a = 1; a < 6; a++) {
            for (int b = a - 1; b >= 0; b--) {
                CHECKS.due("extend(" + a + ", " + b + ")", x.extend(a, b), b == a - 1);
            }
        }
        for (int a = 0; a < 6; a++) {
            for (int b = 0; b < 6; b++) {
                CHECKS.due("extend(" + a + ", " + b + ") then", x.extend(a, b), false);
            }
        }
    }

    /** "or a configuration is there" */
    private static void extendOnceAConfigurationIsThere() {
        BeanContexts x = new BeanContexts(3);
        CHECKS.due("a configuration that is refused", x.configure(0, 4, -1, 0), -1);
        CHECKS.due("extend(1, 0) before the first", x.extend(1, 0), true);
        CHECKS.due("the first configuration", x.configure(0, 0, -1, 0), 0);
        CHECKS.due("extend(2, 0) behind it", x.extend(2, 0), false);
        x.shutdown();
        CHECKS.due("extend(2, 0) after shutdown", x.extend(2, 0), false);
    }

    // Promise 3

    /** "-1 (refused) if the type .. is none" */
    private static void defineType() {
        for (int none : new int[] {-1, 6, LEAST, GREATEST}) {
            CHECKS.due("define(" + none + ", 0, 0, 0)", new BeanContexts(3).define(none, 0, 0, 0), -1);
        }
        BeanContexts x = new BeanContexts(3);
        CHECKS.due("define(0, 0, 0, 0)", x.define(0, 0, 0, 0), 0);
        CHECKS.due("define(5, 0, 0, 0)", x.define(5, 0, 0, 0), 1);
        x.configure(3, 0, -1, 0);
        x.request(0);
        CHECKS.due("get of type 0", x.get(0, 0, 0, -1), 0);
        CHECKS.due("get of type 5", x.get(0, 5, 0, -1), 1);
    }

    /** "the flags (0 .. 15)" */
    private static void defineFlags() {
        for (int none : new int[] {-1, 16, 17, LEAST, GREATEST}) {
            CHECKS.due("define(0, " + none + ", 0, 0)", new BeanContexts(3).define(0, none, 0, 0), -1);
        }
        for (int flags = 0; flags < 16; flags++) {
            CHECKS.due("define(0, " + flags + ", 0, 0)", new BeanContexts(3).define(0, flags, 0, 0), 0);
        }
    }

    /** "the sum of 1 PRIMARY, 2 LAZY, 4 PROTOTYPE, 8 BROKEN" */
    private static void defineEachFlagAlone() {
        BeanContexts x = new BeanContexts(3);
        x.define(0, 0, 0, 0);
        x.define(0, PRIMARY, 0, 0);
        x.define(1, LAZY, 0, 0);
        x.define(2, PROTOTYPE, 0, 0);
        x.define(3, BROKEN, 0, 1);
        x.configure(31, 0, -1, 0);
        x.configure(31, 1, -1, 0);
        CHECKS.due("request without the broken one", x.request(0), 0);
        CHECKS.dueEvents("neither the lazy one nor the prototype", x, 0, 64, 65, 128);
        CHECKS.due("the primary one", x.get(0, 0, 0, 0), 1);
        CHECKS.due("the lazy one", x.get(0, 1, 0, -1), 2);
        CHECKS.due("the lazy one again", x.get(0, 1, 0, -1), 2);
        CHECKS.due("the prototype", x.get(0, 2, 0, -1), 3);
        CHECKS.due("another one of it", x.get(0, 2, 0, -1), 4);
        CHECKS.due("request with the broken one", x.request(1), -6);
    }

    /** Flags 15 are all four, flags 7 all but the last. */
    private static void defineAllFlags() {
        BeanContexts x = new BeanContexts(3);
        x.define(0, 15, 0, 0);
        x.define(0, 0, 0, 0);
        x.define(1, 7, 0, 0);
        x.define(1, 8, 0, 0);
        x.configure(7, 0, -1, 0);
        CHECKS.due("neither is made by the build", x.request(0), 0);
        CHECKS.dueEvents("only the one without flags", x, 0, 65, 128);
        CHECKS.due("15 is primary and broken", x.get(0, 0, 0, 1), -6);
        CHECKS.due("7 is a prototype", x.get(0, 1, 0, -1), 1);
        CHECKS.due("and is made anew", x.get(0, 1, 0, -1), 2);
        x.configure(12, 0, -1, 8);
        x.request(1);
        CHECKS.due("7 is primary", x.definition(x.get(1, 1, 0, 3)), 2);
    }

    /** "a QUALIFIER 0 .. 3" */
    private static void defineQualifier() {
        for (int none : new int[] {-1, 4, LEAST, GREATEST}) {
            CHECKS.due("define(0, 0, " + none + ", 0)", new BeanContexts(3).define(0, 0, none, 0), -1);
        }
        BeanContexts x = new BeanContexts(3);
        for (int qualifier = 0; qualifier < 4; qualifier++) {
            CHECKS.due("define(0, 0, " + qualifier + ", 0)", x.define(0, 0, qualifier, 0), qualifier);
        }
        x.configure(15, 0, -1, 0);
        x.request(0);
        for (int qualifier = 1; qualifier < 4; qualifier++) {
            CHECKS.due("get with qualifier " + qualifier, x.get(0, 0, qualifier, -1), qualifier);
        }
    }

    /** "a PROFILE 0 .. 3" */
    private static void defineProfile() {
        for (int none : new int[] {-1, 4, LEAST, GREATEST}) {
            CHECKS.due("define(0, 0, 0, " + none + ")", new BeanContexts(3).define(0, 0, 0, none), -1);
        }
        BeanContexts x = new BeanContexts(3);
        CHECKS.due("define(0, 0, 0, 0)", x.define(0, 0, 0, 0), 0);
        CHECKS.due("define(0, 0, 0, 3)", x.define(0, 0, 0, 3), 1);
    }

    /** "ten are there": wrong ones do not count among them. */
    private static void defineTenAreThere() {
        BeanContexts x = new BeanContexts(3);
        for (int i = 0; i < 10; i++) {
            CHECKS.due("a wrong one", x.define(6, 0, 0, 0), -1);
            CHECKS.due("definition " + i, x.define(i % 6, LAZY, 0, 0), i);
        }
        CHECKS.due("an eleventh", x.define(0, 0, 0, 0), -1);
        CHECKS.due("need of the tenth", x.need(9, 0, 0, -1), true);
        CHECKS.due("need of the eleventh", x.need(10, 0, 0, -1), false);
        x.configure(1 << 9, 0, -1, 0);
        x.configure(1 << 10, 0, -1, 0);
        x.configure(0, 0, -1, 0);
        CHECKS.due("the tenth is in a set", x.key(0), 0);
        CHECKS.due("the eleventh is in none", x.key(2), 1);
    }

    /** "or a configuration is there" */
    private static void defineOnceAConfigurationIsThere() {
        BeanContexts x = new BeanContexts(3);
        CHECKS.due("a configuration that is refused", x.configure(0, 0, 0, 0), -1);
        CHECKS.due("define before the first", x.define(0, 0, 0, 0), 0);
        CHECKS.due("the first configuration", x.configure(1, 0, -1, 0), 0);
        CHECKS.due("define behind it", x.define(1, 0, 0, 0), -1);
        x.shutdown();
        CHECKS.due("define after shutdown", x.define(1, 0, 0, 0), -1);
    }

    // Promise 4

    /** "false (refused) if there is no such definition" */
    private static void needOfNoDefinition() {
        BeanContexts x = new BeanContexts(3);
        CHECKS.due("need(0, ..) of none", x.need(0, 0, 0, 0), false);
        x.define(0, 0, 0, 0);
        CHECKS.due("need(0, ..)", x.need(0, 0, 0, 0), true);
        CHECKS.due("need(1, ..)", x.need(1, 0, 0, 0), false);
        for (int none : new int[] {-1, 9, 10, LEAST, GREATEST}) {
            CHECKS.due("need(" + none + ", ..)", x.need(none, 0, 0, 0), false);
        }
        x.define(0, 0, 0, 0);
        CHECKS.due("need(1, ..) then", x.need(1, 0, 0, 0), true);
    }

    private static void needOfTheTenthDefinition() {
        BeanContexts x = new BeanContexts(3);
        for (int i = 0; i < 9; i++) {
            x.define(0, 0, 0, 0);
        }
        CHECKS.due("need(9, ..) of nine", x.need(9, 0, 0, 0), false);
        x.define(0, 0, 0, 0);
        CHECKS.due("need(9, ..) of ten", x.need(9, 0, 0, 0), true);
        CHECKS.due("need(10, ..) of ten", x.need(10, 0, 0, 0), false);
    }

    /** "the type .. is none" */
    private static void needType() {
        for (int none : new int[] {-1, 6, LEAST, GREATEST}) {
            BeanContexts x = new BeanContexts(3);
            x.define(0, 0, 0, 0);
            CHECKS.due("need(0, " + none + ", 0, 0)", x.need(0, none, 0, 0), false);
        }
        BeanContexts x = new BeanContexts(3);
        x.define(1, 0, 0, 0);
        x.define(0, 0, 0, 0);
        x.define(5, 0, 0, 0);
        CHECKS.due("need(0, 0, 0, -1)", x.need(0, 0, 0, -1), true);
        CHECKS.due("need(0, 5, 0, -1)", x.need(0, 5, 0, -1), true);
        x.configure(7, 0, -1, 0);
        x.request(0);
        CHECKS.due("given type 0", x.definition(x.wired(2, 0)), 1);
        CHECKS.due("given type 5", x.definition(x.wired(2, 1)), 2);
    }

    /** "the qualifier .. is none" */
    private static void needQualifier() {
        for (int none : new int[] {-1, 4, LEAST, GREATEST}) {
            BeanContexts x = new BeanContexts(3);
            x.define(0, 0, 0, 0);
            CHECKS.due("need(0, 0, " + none + ", 0)", x.need(0, 0, none, 0), false);
        }
        BeanContexts x = new BeanContexts(3);
        x.define(0, 0, 0, 0);
        CHECKS.due("need(0, 0, 0, 0)", x.need(0, 0, 0, 0), true);
        CHECKS.due("need(0, 0, 3, 0)", x.need(0, 0, 3, 0), true);
    }

    /** "a NAME -1 .. 9" */
    private static void needName() {
        for (int none : new int[] {-2, 10, LEAST, GREATEST}) {
            BeanContexts x = new BeanContexts(3);
            x.define(0, 0, 0, 0);
            CHECKS.due("need(0, 0, 0, " + none + ")", x.need(0, 0, 0, none), false);
        }
        BeanContexts x = new BeanContexts(3);
        x.define(0, 0, 0, 0);
        CHECKS.due("need(0, 0, 0, -1)", x.need(0, 0, 0, -1), true);
        CHECKS.due("need(0, 0, 0, 0)", x.need(0, 0, 0, 0), true);
        CHECKS.due("need(0, 0, 0, 9), of no definition yet", x.need(0, 0, 0, 9), true);
    }

    /** "it has three": wrong ones do not count among them. */
    private static void needThreeAreThere() {
        BeanContexts x = new BeanContexts(3);
        x.define(0, 0, 0, 0);
        for (int qualifier = 1; qualifier <= 3; qualifier++) {
            x.define(1, 0, qualifier, 0);
            CHECKS.due("a wrong one", x.need(0, 1, 4, -1), false);
            CHECKS.due("need " + qualifier, x.need(0, 1, qualifier, -1), true);
        }
        CHECKS.due("a fourth", x.need(0, 1, 1, -1), false);
        x.configure(15, 0, -1, 0);
        x.request(0);
        CHECKS.dueEvents("in the order in which they were added", x, 0, 65, 66, 67, 64, 128);
        for (int k = 0; k < 3; k++) {
            CHECKS.due("wired(3, " + k + ")", x.wired(3, k), k);
        }
        CHECKS.due("wired(3, 3)", x.wired(3, 3), -1);
    }

    private static void needThreeOfEachDefinition() {
        BeanContexts x = new BeanContexts(3);
        for (int i = 0; i < 10; i++) {
            x.define(0, 0, 0, 0);
        }
        for (int k = 0; k < 3; k++) {
            for (int i = 0; i < 10; i++) {
                CHECKS.due("need " + k + " of " + i, x.need(i, 0, 0, -1), true);
            }
        }
        for (int i = 0; i < 10; i++) {
            CHECKS.due("a fourth need of " + i, x.need(i, 0, 0, -1), false);
        }
    }

    /** "or a configuration is there" */
    private static void needOnceAConfigurationIsThere() {
        BeanContexts x = new BeanContexts(3);
        x.define(0, 0, 0, 0);
        CHECKS.due("a configuration that is refused", x.configure(0, -1, -1, 0), -1);
        CHECKS.due("need before the first", x.need(0, 1, 0, -1), true);
        CHECKS.due("the first configuration", x.configure(1, 0, -1, 0), 0);
        CHECKS.due("need behind it", x.need(0, 1, 0, -1), false);
        x.shutdown();
        CHECKS.due("need after shutdown", x.need(0, 1, 0, -1), false);
    }

    /** "a qualifier 0 .. 3 (0: any one)" */
    private static void needQualifierZeroIsAny() {
        for (int qualifier = 0; qualifier < 4; qualifier++) {
            BeanContexts x = new BeanContexts(3);
            x.define(0, 0, qualifier, 0);
            x.define(1, 0, 0, 0);
            x.define(2, LAZY, 0, 0);
            x.need(1, 0, 0, -1);
            x.need(2, 0, 3, -1);
            x.configure(7, 0, -1, 0);
            CHECKS.due("request", x.request(0), 0);
            CHECKS.due("0 fits " + qualifier, x.wired(1, 0), 0);
            CHECKS.due("3 fits " + qualifier, x.get(0, 2, 0, -1), qualifier == 3 ? 2 : -3);
        }
    }

    /** A need may bear the greatest name, and the least, which is nobody's. */
    private static void needNameOfTheTenth() {
        BeanContexts x = new BeanContexts(3);
        x.define(1, LAZY, 0, 0);
        x.define(2, LAZY, 0, 0);
        for (int i = 2; i < 10; i++) {
            x.define(0, LAZY, 0, 0);
        }
        x.need(0, 0, 0, 9);
        x.need(1, 0, 0, -1);
        x.configure(1023, 0, -1, 0);
        x.request(0);
        CHECKS.due("get of what needs name 9", x.get(0, 1, 0, -1), 1);
        CHECKS.due("it was given definition 9", x.definition(0), 9);
        CHECKS.due("get of what needs name -1", x.get(0, 2, 0, -1), -4);
    }

    // Promise 5

    /** "-1 (refused) if the profile is none" */
    private static void configureProfile() {
        for (int none : new int[] {-1, 4, LEAST, GREATEST}) {
            CHECKS.due("configure(0, " + none + ", -1, 0)", new BeanContexts(3).configure(0, none, -1, 0), -1);
        }
        for (int profile = 0; profile < 4; profile++) {
            CHECKS.due("configure(0, " + profile + ", -1, 0)", new BeanContexts(3).configure(0, profile, -1, 0), 0);
        }
    }

    /** "a PARENT, which is an earlier configuration, or -1 for none" */
    private static void configureParentIsEarlier() {
        BeanContexts x = new BeanContexts(3);
        for (int none : new int[] {-2, 0, 1, LEAST, GREATEST}) {
            CHECKS.due("the first with parent " + none, x.configure(0, 0, none, 0), -1);
        }
        CHECKS.due("the first with parent -1", x.configure(0, 0, -1, 0), 0);
        CHECKS.due("the second with itself", x.configure(0, 0, 1, 0), -1);
        CHECKS.due("the second with the first", x.configure(0, 0, 0, 0), 1);
        for (int i = 2; i < 7; i++) {
            x.configure(0, 0, -1, 0);
        }
        CHECKS.due("the eighth with itself", x.configure(0, 0, 7, 0), -1);
        CHECKS.due("the eighth with the seventh", x.configure(0, 0, 6, 0), 7);
    }

    /** "A configuration whose parent has a parent itself can not be a parent." */
    private static void configureParentThatCanBeNone() {
        BeanContexts x = new BeanContexts(3);
        x.configure(0, 0, -1, 0);
        CHECKS.due("below one without a parent", x.configure(0, 0, 0, 0), 1);
        CHECKS.due("below one whose parent has none", x.configure(0, 0, 1, 0), 2);
        CHECKS.due("below one whose parent has one", x.configure(0, 0, 2, 0), -1);
        CHECKS.due("the refused one has no number", x.configure(0, 0, 1, 0), 3);
        CHECKS.due("below an equal one", x.configure(0, 0, 3, 0), -1);
    }

    /** "or eight are there" */
    private static void configureEightAreThere() {
        BeanContexts x = new BeanContexts(3);
        for (int i = 0; i < 8; i++) {
            CHECKS.due("a wrong one", x.configure(0, 4, -1, 0), -1);
            CHECKS.due("configuration " + i, x.configure(0, 0, -1, 0), i);
        }
        CHECKS.due("a ninth", x.configure(0, 0, -1, 0), -1);
        CHECKS.due("a ninth with a parent", x.configure(0, 0, 0, 0), -1);
        CHECKS.due("key(7)", x.key(7), 0);
        CHECKS.due("key(8)", x.key(8), -1);
    }

    /** An empty set, also without any definition. */
    private static void configureEmptySet() {
        BeanContexts x = new BeanContexts(3);
        CHECKS.due("configure without definitions", x.configure(0, 0, -1, 0), 0);
        CHECKS.due("its context", x.request(0), 0);
        CHECKS.dueEvents("nothing is made", x, 0, 128);
        CHECKS.due("nothing is found", x.get(0, 0, 0, -1), -3);
        CHECKS.due("nothing is mocked", x.reset(0), 0);
    }

    /** "(the sum of 1 for 0, 2 for 1, 4 for 2, ..)": from the first to the tenth. */
    private static void configureFullSet() {
        BeanContexts x = new BeanContexts(3);
        for (int i = 0; i < 10; i++) {
            x.define(0, 0, 0, 0);
        }
        x.configure(1023, 0, -1, 0);
        x.configure(1, 0, -1, 0);
        x.configure(512, 0, -1, 512);
        x.request(0);
        CHECKS.dueEvents("all ten", x, 0, 64, 65, 66, 67, 68, 69, 70, 71, 72, 73, 128);
        x.request(1);
        CHECKS.dueEvents("the first", x, 11, 64, 129);
        x.request(2);
        CHECKS.dueEvents("the tenth", x, 13, 73, 130);
        CHECKS.due("the tenth is mocked", x.stub(11, 1), true);
    }

    /** "numbers in the sets that are no definitions count for nothing" */
    private static void configureNumbersThatAreNoDefinitions() {
        BeanContexts x = new BeanContexts(3);
        x.define(0, 0, 0, 0);
        x.define(1, 0, 0, 0);
        x.configure(3, 0, -1, 2);
        x.configure(7, 0, -1, 2);
        x.configure(3, 0, -1, 6);
        x.configure(-1, 0, -1, LEAST + 2);
        x.configure(GREATEST, 0, -1, -2);
        for (int i = 0; i < 5; i++) {
            CHECKS.due("key(" + i + ")", x.key(i), 0);
        }
        x.configure(4, 0, -1, 4);
        x.configure(LEAST, 0, -1, LEAST);
        x.configure(0, 0, -1, 0);
        for (int i = 5; i < 8; i++) {
            CHECKS.due("key(" + i + ")", x.key(i), 5);
        }
        CHECKS.due("request(4)", x.request(4), 0);
        CHECKS.dueEvents("two beans", x, 0, 64, 65, 128);
        CHECKS.due("one mock", x.reset(4), 1);
    }

    /** "mocked in it are those of them in the other set" */
    private static void configureMocksThatAreNotInIt() {
        BeanContexts x = new BeanContexts(3);
        x.define(0, LAZY, 0, 0);
        x.define(1, LAZY, 0, 0);
        x.define(2, LAZY, 0, 1);
        x.configure(1, 0, -1, 6);
        x.configure(5, 0, -1, 4);
        x.configure(1, 0, -1, 0);
        CHECKS.due("a mock beside the set counts for nothing", x.key(1), 0);
        CHECKS.due("nor does one of another profile", x.key(2), 0);
        x.request(0);
        CHECKS.dueEvents("none is made", x, 0, 128);
        CHECKS.due("reset", x.reset(0), 0);
        x.configure(7, 1, -1, 6);
        x.request(3);
        CHECKS.dueEvents("those in it are made at once", x, 1, 65, 66, 129);
        CHECKS.due("reset", x.reset(3), 2);
    }

    /** "the definitions of its set with profile 0 or its own profile" */
    private static void configureProfileOfADefinition() {
        for (int own = 0; own < 4; own++) {
            BeanContexts x = new BeanContexts(3);
            for (int profile = 0; profile < 4; profile++) {
                x.define(profile, 0, 0, profile);
            }
            x.configure(15, own, -1, 0);
            x.request(0);
            for (int profile = 0; profile < 4; profile++) {
                boolean isIn = x.get(0, profile, 0, -1) >= 0;
                CHECKS.due("profile " + profile + " is in " + own, isIn, profile == 0 || profile == own);
            }
        }
    }

    /** Neither contexts nor shutdown() stand among what refuses a configuration. */
    private static void configureIsNeverTooLate() {
        BeanContexts x = new BeanContexts(3);
        x.configure(0, 0, -1, 0);
        x.request(0);
        CHECKS.due("configure with a context", x.configure(0, 0, 0, 0), 1);
        x.shutdown();
        CHECKS.due("configure after shutdown", x.configure(0, 0, 1, 0), 2);
    }

    // Promise 6

    /** "-1 if there is no such configuration" */
    private static void keyOfNoConfiguration() {
        BeanContexts x = new BeanContexts(3);
        CHECKS.due("key(0) of none", x.key(0), -1);
        x.configure(0, 0, -1, 0);
        CHECKS.due("key(0)", x.key(0), 0);
        for (int none : new int[] {-1, 1, LEAST, GREATEST}) {
            CHECKS.due("key(" + none + ")", x.key(none), -1);
        }
    }

    /** "The least number of a configuration whose key is equal" */
    private static void keyIsTheLeastNumber() {
        BeanContexts x = new BeanContexts(3);
        x.define(0, 0, 0, 0);
        for (int i = 0; i < 8; i++) {
            x.configure(i % 2, 0, -1, 0);
        }
        for (int i = 0; i < 8; i++) {
            CHECKS.due("key(" + i + ")", x.key(i), i % 2);
        }
    }

    /** "Its KEY: what is in it, what is mocked in it, and the key of its parent" */
    private static void keyEachPartCounts() {
        BeanContexts x = new BeanContexts(3);
        x.define(0, 0, 0, 0);
        x.define(0, 0, 0, 1);
        x.configure(1, 0, -1, 0);
        x.configure(3, 1, -1, 0);
        x.configure(1, 0, -1, 1);
        x.configure(1, 0, 0, 0);
        for (int i = 0; i < 4; i++) {
            CHECKS.due("key(" + i + ")", x.key(i), i);
        }
        x.configure(3, 3, -1, 0);
        CHECKS.due("the profile itself is no part", x.key(4), 0);
        x.configure(3, 2, 4, 2);
        CHECKS.due("the parent's number is no part", x.key(5), 3);
    }

    private static void keyOfTheParentCounts() {
        BeanContexts x = new BeanContexts(3);
        x.define(0, 0, 0, 0);
        x.configure(0, 0, -1, 0);
        x.configure(1, 0, -1, 0);
        x.configure(0, 0, 0, 0);
        x.configure(0, 0, 1, 0);
        CHECKS.due("parents with other keys", x.key(3), 3);
        x.configure(0, 0, 2, 0);
        x.configure(0, 0, 3, 0);
        CHECKS.due("one step deeper", x.key(4), 4);
        CHECKS.due("grandparents with other keys", x.key(5), 5);
        x.configure(0, 0, 3, 0);
        CHECKS.due("the same once more", x.key(6), 5);
    }
}
