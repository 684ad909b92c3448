import java.util.ArrayList;
import java.util.Arrays;

/**
 * Builds contexts of beans out of definitions, keeps the contexts by what they are made of, and
 * lets the least recently used ones give way.
 */
public final class BeanContexts {
    /** What a call answers that is refused, or that asks for a number that is not there. */
    private static final int NONE = -1;
    /** The same for the calls that answer a long: no int is equal to it. */
    private static final long NO_ANSWER = 4294967296L;

    private static final int MISSING = -3;
    private static final int UNCLEAR = -4;
    private static final int CIRCULAR = -5;
    private static final int BROKEN = -6;
    private static final int LIMIT = -7;
    private static final int REFUSED = -8;

    private static final int FLAG_PRIMARY = 1;
    private static final int FLAG_LAZY = 2;
    private static final int FLAG_PROTOTYPE = 4;
    private static final int FLAG_BROKEN = 8;

    private static final int EVENT_MADE = 1;
    private static final int EVENT_BUILT = 2;
    private static final int EVENT_FAILED = 3;
    private static final int EVENT_DESTROYED = 4;
    private static final int EVENT_CLOSED = 5;
    private static final int EVENT_FACTOR = 64;
    private static final int KEPT_EVENTS = 32;

    private static final int TYPES = 6;
    private static final int FLAG_SUMS = 16;
    private static final int QUALIFIERS = 4;
    private static final int PROFILES = 4;
    private static final int LEAST_CAPACITY = 3;
    private static final int MOST_CAPACITY = 6;
    private static final int MOST_DEFINITIONS = 10;
    private static final int MOST_NEEDS = 3;
    private static final int MOST_CONFIGURATIONS = 8;
    private static final int MOST_BUILDS = 30;
    private static final int MOST_FAILURES = 2;
    private static final int MOST_BEANS = 200;
    /** Ten definitions in each of a context, its parent and that one's parent. */
    private static final int MOST_OPEN = 30;

    private final Catalog catalog = new Catalog();
    /** The keys of the configurations, by their numbers; equal keys are one object. */
    private final ArrayList<Key> configurations = new ArrayList<>();
    private final Journal journal = new Journal();
    private final Workshop workshop = new Workshop(catalog, journal);
    private final Shelf shelf;
    private boolean down;

    public BeanContexts(int capacity) {
        shelf = new Shelf(Math.max(LEAST_CAPACITY, Math.min(MOST_CAPACITY, capacity)), workshop, journal);
    }

    public boolean extend(int a, int b) {
        if (!configurations.isEmpty() || !isType(a) || !isType(b)) {
            return false;
        }
        if (catalog.isKind(b, a) || catalog.isKind(a, b)) {
            return false;
        }
        catalog.addKind(a, b);
        return true;
    }

    public int define(int type, int flags, int qualifier, int profile) {
        if (!configurations.isEmpty() || catalog.size() >= MOST_DEFINITIONS) {
            return NONE;
        }
        if (!isType(type) || !isBelow(flags, FLAG_SUMS) || !isQualifier(qualifier) || !isProfile(profile)) {
            return NONE;
        }
        return catalog.add(new Definition(type, flags, qualifier, profile));
    }

    public boolean need(int definition, int type, int qualifier, int name) {
        if (!configurations.isEmpty() || !isBelow(definition, catalog.size())) {
            return false;
        }
        if (!isType(type) || !isQualifier(qualifier) || !isName(name)) {
            return false;
        }
        return catalog.at(definition).addNeed(new Need(type, qualifier, name));
    }

    public int configure(int set, int profile, int parent, int mocks) {
        if (configurations.size() >= MOST_CONFIGURATIONS || !isProfile(profile)) {
            return NONE;
        }
        if (parent != NONE && !(isConfiguration(parent) && configurations.get(parent).canBeParent())) {
            return NONE;
        }
        Key parentKey = parent == NONE ? null : configurations.get(parent);
        int inside = set & catalog.ofProfile(profile);
        configurations.add(sharedKey(inside, inside & mocks, parentKey));
        return configurations.size() - 1;
    }

    public int key(int configuration) {
        return isConfiguration(configuration) ? configurations.get(configuration).number : NONE;
    }

    public int request(int configuration) {
        if (down || !isConfiguration(configuration)) {
            return NONE;
        }
        return shelf.obtain(configurations.get(configuration));
    }

    public int dirty(int configuration) {
        if (!isConfiguration(configuration)) {
            return NONE;
        }
        Context context = contextOf(configuration);
        return context == null ? 0 : shelf.close(context);
    }

    public int shutdown() {
        down = true;
        return shelf.closeAll();
    }

    public int get(int configuration, int type, int qualifier, int name) {
        if (!isType(type) || !isQualifier(qualifier) || !isName(name)) {
            return NONE;
        }
        Context context = contextOf(configuration);
        return context == null ? NONE : workshop.supplyNeed(context, new Need(type, qualifier, name), 0);
    }

    public long call(int bean, int x) {
        Bean called = workshop.liveBean(bean);
        return called == null ? NO_ANSWER : workshop.answerOf(called, x);
    }

    public boolean stub(int bean, int answer) {
        Bean mock = workshop.liveMock(bean);
        if (mock == null) {
            return false;
        }
        mock.answer = answer;
        return true;
    }

    public long recorded(int bean, int what) {
        Bean mock = workshop.liveMock(bean);
        if (mock == null || !isBelow(what, 2)) {
            return NO_ANSWER;
        }
        return what == 0 ? mock.count : mock.last;
    }

    public int reset(int configuration) {
        Context context = contextOf(configuration);
        return context == null ? NONE : workshop.clearMocks(context);
    }

    public int wired(int bean, int k) {
        Bean asked = workshop.liveBean(bean);
        return asked == null || !isBelow(k, asked.wires.length) ? NONE : asked.wires[k];
    }

    public int definition(int bean) {
        Bean asked = workshop.liveBean(bean);
        return asked == null ? NONE : asked.definition;
    }

    public int cached(int k) {
        return shelf.numberAt(k);
    }

    public int failures(int configuration) {
        return isConfiguration(configuration) ? configurations.get(configuration).failedBuilds : NONE;
    }

    public int events() {
        return journal.size();
    }

    public int event(int k) {
        return journal.before(k);
    }

    private static boolean isBelow(int number, int bound) {
        return number >= 0 && number < bound;
    }

    /** A set is the sum of 1 << n for each n in it, as in the face. */
    private static boolean contains(int set, int n) {
        return (set & 1 << n) != 0;
    }

    private static boolean isType(int type) {
        return isBelow(type, TYPES);
    }

    private static boolean isQualifier(int qualifier) {
        return isBelow(qualifier, QUALIFIERS);
    }

    private static boolean isProfile(int profile) {
        return isBelow(profile, PROFILES);
    }

    private static boolean isName(int name) {
        return name == NONE || isBelow(name, MOST_DEFINITIONS);
    }

    private boolean isConfiguration(int configuration) {
        return isBelow(configuration, configurations.size());
    }

    /** The context cached for a configuration's key; null if there is none or no such configuration. */
    private Context contextOf(int configuration) {
        return isConfiguration(configuration) ? shelf.cachedFor(configurations.get(configuration)) : null;
    }

    private Key sharedKey(int inside, int mocked, Key parent) {
        for (int i = 0; i < configurations.size(); i++) {
            Key known = configurations.get(i);
            if (known.inside == inside && known.mocked == mocked && known.parent == parent) {
                return known;
            }
        }
        int single = mocked | inside & ~catalog.flagged(FLAG_PROTOTYPE);
        int eager = mocked | single & ~catalog.flagged(FLAG_LAZY);
        return new Key(configurations.size(), inside, mocked, single, eager, parent);
    }

    private record Need(int type, int qualifier, int name) {
    }

    private static final class Definition {
        private final int type;
        private final int flags;
        private final int qualifier;
        private final int profile;
        private final ArrayList<Need> needs = new ArrayList<>();

        Definition(int type, int flags, int qualifier, int profile) {
            this.type = type;
            this.flags = flags;
            this.qualifier = qualifier;
            this.profile = profile;
        }

        boolean addNeed(Need added) {
            if (needs.size() >= MOST_NEEDS) {
                return false;
            }
            needs.add(added);
            return true;
        }
    }

    /** The types and the definitions. */
    private static final class Catalog {
        /** For each type the set of those that it is. */
        private final int[] kinds = new int[TYPES];
        private final ArrayList<Definition> definitions = new ArrayList<>();

        Catalog() {
            for (int type = 0; type < TYPES; type++) {
                kinds[type] = 1 << type;
            }
        }

        boolean isKind(int a, int b) {
            return contains(kinds[a], b);
        }

        /** All that is a becomes what b is too, so that the rows stay complete. */
        void addKind(int a, int b) {
            for (int type = 0; type < TYPES; type++) {
                if (isKind(type, a)) {
                    kinds[type] |= kinds[b];
                }
            }
        }

        int size() {
            return definitions.size();
        }

        Definition at(int number) {
            return definitions.get(number);
        }

        int add(Definition added) {
            definitions.add(added);
            return definitions.size() - 1;
        }

        int ofProfile(int profile) {
            int set = 0;
            for (int number = 0; number < definitions.size(); number++) {
                int own = definitions.get(number).profile;
                if (own == 0 || own == profile) {
                    set |= 1 << number;
                }
            }
            return set;
        }

        int flagged(int flag) {
            int set = 0;
            for (int number = 0; number < definitions.size(); number++) {
                if ((definitions.get(number).flags & flag) != 0) {
                    set |= 1 << number;
                }
            }
            return set;
        }

        int candidates(int inside, Need sought) {
            int set = 0;
            for (int number = 0; number < definitions.size(); number++) {
                Definition offered = definitions.get(number);
                boolean fitsType = contains(kinds[offered.type], sought.type());
                boolean fitsQualifier = sought.qualifier() == 0 || sought.qualifier() == offered.qualifier;
                if (contains(inside, number) && fitsType && fitsQualifier) {
                    set |= 1 << number;
                }
            }
            return set;
        }

        /** The one definition of a set that is not empty, or UNCLEAR. */
        int choose(int candidates, int name) {
            if (Integer.bitCount(candidates) == 1) {
                return Integer.numberOfTrailingZeros(candidates);
            }
            int primary = candidates & flagged(FLAG_PRIMARY);
            if (primary != 0) {
                return Integer.bitCount(primary) == 1 ? Integer.numberOfTrailingZeros(primary) : UNCLEAR;
            }
            return name != NONE && contains(candidates, name) ? name : UNCLEAR;
        }
    }

    /** What a context is made of; its number is that of the first configuration that has it. */
    private static final class Key {
        private final int number;
        private final int inside;
        private final int mocked;
        /** The definitions that have at most one bean in a context. */
        private final int single;
        /** The definitions whose beans are there as soon as a context is built. */
        private final int eager;
        private final Key parent;
        private int failedBuilds;

        Key(int number, int inside, int mocked, int single, int eager, Key parent) {
            this.number = number;
            this.inside = inside;
            this.mocked = mocked;
            this.single = single;
            this.eager = eager;
            this.parent = parent;
        }

        /** This is what keeps every chain of parents at three: all recursion over parents ends by it. */
        boolean canBeParent() {
            return parent == null || parent.parent == null;
        }
    }

    private static final class Context {
        private final int number;
        private final Key key;
        private final Context parent;
        /** The bean of each definition that has but one here, or NONE. */
        private final int[] singles = new int[MOST_DEFINITIONS];
        /** The definitions of which a bean is being made just now, as a set. */
        private int open;
        private boolean cached;
        private boolean gone;

        Context(int number, Key key, Context parent) {
            this.number = number;
            this.key = key;
            this.parent = parent;
            Arrays.fill(singles, NONE);
        }

        boolean hasAncestor(Context other) {
            for (Context above = parent; above != null; above = above.parent) {
                if (above == other) {
                    return true;
                }
            }
            return false;
        }
    }

    private static final class Bean {
        private final int definition;
        private final Context home;
        private final boolean isMock;
        /** The beans of its needs; a mock has none. */
        private final int[] wires;
        private int answer;
        private int count;
        private int last;

        Bean(int definition, Context home, boolean isMock, int[] wires) {
            this.definition = definition;
            this.home = home;
            this.isMock = isMock;
            this.wires = wires;
        }

        int note(int x) {
            count++;
            last = x;
            return answer;
        }

        void clear() {
            answer = 0;
            count = 0;
            last = 0;
        }
    }

    /** Counts all events and keeps the latest ones. */
    private static final class Journal {
        private final int[] ring = new int[KEPT_EVENTS];
        private int total;

        void write(int event, int n) {
            ring[total % KEPT_EVENTS] = EVENT_FACTOR * event + n;
            total++;
        }

        int size() {
            return total;
        }

        int before(int k) {
            if (!isBelow(k, KEPT_EVENTS) || k >= total) {
                return NONE;
            }
            return ring[(total - 1 - k) % KEPT_EVENTS];
        }
    }

    /** Makes the beans, finds them for needs, and takes them back. */
    private static final class Workshop {
        private final Catalog catalog;
        private final Journal journal;
        private final ArrayList<Bean> beans = new ArrayList<>();

        Workshop(Catalog catalog, Journal journal) {
            this.catalog = catalog;
            this.journal = journal;
        }

        /** Finds a definition from a context on and supplies its bean: the bean's number, or a code. */
        int supplyNeed(Context from, Need sought, int depth) {
            for (Context home = from; home != null; home = home.parent) {
                int candidates = catalog.candidates(home.key.inside, sought);
                if (candidates != 0) {
                    int chosen = catalog.choose(candidates, sought.name());
                    return chosen < 0 ? chosen : supply(home, chosen, depth);
                }
            }
            return MISSING;
        }

        /** The depth counts the beans that are being made; as none is so twice, it stays in its bound. */
        int supply(Context home, int definition, int depth) {
            if (contains(home.key.single, definition) && home.singles[definition] != NONE) {
                return home.singles[definition];
            }
            if (contains(home.key.mocked, definition)) {
                return keep(new Bean(definition, home, true, new int[0]));
            }
            if (contains(home.open, definition) || depth >= MOST_OPEN) {
                return CIRCULAR;
            }
            home.open |= 1 << definition;
            int made = assemble(home, definition, depth);
            home.open &= ~(1 << definition);
            return made;
        }

        private int assemble(Context home, int definition, int depth) {
            Definition plan = catalog.at(definition);
            int[] wires = new int[plan.needs.size()];
            for (int k = 0; k < wires.length; k++) {
                int given = supplyNeed(home, plan.needs.get(k), depth + 1);
                if (given < 0) {
                    return given;
                }
                wires[k] = given;
            }
            boolean isBroken = (plan.flags & FLAG_BROKEN) != 0;
            return isBroken ? BROKEN : keep(new Bean(definition, home, false, wires));
        }

        private int keep(Bean made) {
            if (beans.size() >= MOST_BEANS) {
                return LIMIT;
            }
            int number = beans.size();
            beans.add(made);
            if (contains(made.home.key.single, made.definition)) {
                made.home.singles[made.definition] = number;
            }
            journal.write(EVENT_MADE, made.definition);
            return number;
        }

        /** Prototypes get no event, but are gone with their context all the same. */
        void destroyBeans(Context home) {
            for (int number = beans.size() - 1; number >= 0; number--) {
                Bean bean = beans.get(number);
                if (bean.home == home && contains(home.key.single, bean.definition)) {
                    journal.write(EVENT_DESTROYED, bean.definition);
                }
            }
            home.gone = true;
        }

        /** Null if there is no such bean or it is gone. */
        Bean liveBean(int number) {
            if (!isBelow(number, beans.size())) {
                return null;
            }
            Bean bean = beans.get(number);
            return bean.home.gone ? null : bean;
        }

        Bean liveMock(int number) {
            Bean bean = liveBean(number);
            return bean != null && bean.isMock ? bean : null;
        }

        /** Follows the first needs down: a bean's needs were made before it, so the numbers fall. */
        int answerOf(Bean first, int x) {
            Bean called = first;
            int sum = 0;
            int passed = x;
            for (int step = 0; step < MOST_BEANS && called.wires.length > 0; step++) {
                sum += called.definition;
                passed++;
                called = beans.get(called.wires[0]);
            }
            return sum + (called.isMock ? called.note(passed) : called.definition + passed);
        }

        int clearMocks(Context context) {
            int cleared = 0;
            for (int number = 0; number < beans.size(); number++) {
                Bean bean = beans.get(number);
                if (bean.isMock && (bean.home == context || context.hasAncestor(bean.home))) {
                    bean.clear();
                    cleared++;
                }
            }
            return cleared;
        }
    }

    /** Keeps the contexts: builds, displaces and closes them. */
    private static final class Shelf {
        private final int capacity;
        private final Workshop workshop;
        private final Journal journal;
        /** Every context whose build was begun, by its number. */
        private final ArrayList<Context> begun = new ArrayList<>();
        /** The cached contexts, the latest used first. */
        private final ArrayList<Context> order = new ArrayList<>();

        Shelf(int capacity, Workshop workshop, Journal journal) {
            this.capacity = capacity;
            this.workshop = workshop;
            this.journal = journal;
        }

        Context cachedFor(Key key) {
            for (int i = 0; i < order.size(); i++) {
                if (order.get(i).key == key) {
                    return order.get(i);
                }
            }
            return null;
        }

        int numberAt(int k) {
            return isBelow(k, order.size()) ? order.get(k).number : NONE;
        }

        /** The number of the context of a key, or a code. */
        int obtain(Key key) {
            Context known = cachedFor(key);
            if (known != null) {
                use(known);
                return known.number;
            }
            if (key.failedBuilds >= MOST_FAILURES) {
                return REFUSED;
            }
            if (key.parent == null) {
                return build(key, null);
            }
            int above = obtain(key.parent);
            return above < 0 ? above : build(key, begun.get(above));
        }

        private int build(Key key, Context parent) {
            if (begun.size() >= MOST_BUILDS) {
                return LIMIT;
            }
            Context fresh = new Context(begun.size(), key, parent);
            begun.add(fresh);
            for (int definition = 0; definition < MOST_DEFINITIONS; definition++) {
                int supplied = contains(key.eager, definition) ? workshop.supply(fresh, definition, 0) : 0;
                if (supplied < 0) {
                    takeBack(fresh);
                    return supplied;
                }
            }
            putUp(fresh);
            return fresh.number;
        }

        private void putUp(Context fresh) {
            if (order.size() >= capacity) {
                displaceFor(fresh);
            }
            fresh.cached = true;
            use(fresh);
            journal.write(EVENT_BUILT, fresh.number);
        }

        private void takeBack(Context failed) {
            workshop.destroyBeans(failed);
            failed.key.failedBuilds++;
            journal.write(EVENT_FAILED, failed.number);
        }

        private void displaceFor(Context fresh) {
            for (int i = order.size() - 1; i >= 0; i--) {
                if (!fresh.hasAncestor(order.get(i))) {
                    close(order.get(i));
                    return;
                }
            }
        }

        /** Puts the context first and its ancestors right behind it, as if each had been used in turn. */
        private void use(Context context) {
            int place = 0;
            for (Context used = context; used != null; used = used.parent) {
                removeFromOrder(used);
                order.add(place, used);
                place++;
            }
        }

        private void removeFromOrder(Context context) {
            for (int i = 0; i < order.size(); i++) {
                if (order.get(i) == context) {
                    order.remove(i);
                    return;
                }
            }
        }

        /** Closes a context and those below it; answers how many. */
        int close(Context context) {
            int closed = 1;
            for (int number = begun.size() - 1; number > context.number; number--) {
                Context below = begun.get(number);
                if (below.cached && below.parent == context) {
                    closed += close(below);
                }
            }
            workshop.destroyBeans(context);
            context.cached = false;
            removeFromOrder(context);
            journal.write(EVENT_CLOSED, context.number);
            return closed;
        }

        int closeAll() {
            int closed = 0;
            for (int number = begun.size() - 1; number >= 0; number--) {
                Context context = begun.get(number);
                if (context.cached) {
                    closed += close(context);
                }
            }
            return closed;
        }
    }
}
