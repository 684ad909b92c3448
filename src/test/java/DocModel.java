import java.util.ArrayList;
import java.util.Comparator;
import java.util.HashMap;
import java.util.HashSet;
import java.util.List;
import java.util.Map;
import java.util.Set;
import java.util.TreeSet;

/**
 * A second program for the same document, written along its words and with the Java library, to
 * compare the first one with. Keys are texts, uses are stamps, everything is looked up anew.
 */
final class DocModel {
    private static final int MISSING = -3;
    private static final int UNCLEAR = -4;
    private static final int CIRCULAR = -5;
    private static final int BROKEN = -6;
    private static final int LIMIT = -7;
    private static final int REFUSED = -8;
    private static final long NO_ANSWER = 1L << 32;

    private static final class Def {
        int type;
        boolean primary;
        boolean lazy;
        boolean prototype;
        boolean broken;
        int qualifier;
        int profile;
        final List<int[]> needs = new ArrayList<>();
    }

    private static final class Config {
        final TreeSet<Integer> in = new TreeSet<>();
        final TreeSet<Integer> mocked = new TreeSet<>();
        Config parent;

        String keyText() {
            return in + "/" + mocked + (parent == null ? "" : " < " + parent.keyText());
        }
    }

    private static final class Ctx {
        int number;
        Config config;
        Ctx parent;
        long use;
        boolean isCached;
        boolean isGone;
        final Set<Integer> making = new HashSet<>();

        List<Ctx> ancestors() {
            List<Ctx> all = new ArrayList<>();
            if (parent != null) {
                all.add(parent);
                all.addAll(parent.ancestors());
            }
            return all;
        }
    }

    private static final class Made {
        int def;
        Ctx ctx;
        boolean mock;
        final List<Integer> given = new ArrayList<>();
        int answer;
        int count;
        int last;
    }

    private final int capacity;
    private final boolean[][] links = new boolean[6][6];
    private final List<Def> defs = new ArrayList<>();
    private final List<Config> configs = new ArrayList<>();
    private final List<Ctx> contexts = new ArrayList<>();
    private final List<Made> beans = new ArrayList<>();
    private final List<Integer> log = new ArrayList<>();
    private final Map<String, Integer> failed = new HashMap<>();
    private long clock;
    private boolean ended;

    DocModel(int capacity) {
        this.capacity = capacity < 3 ? 3 : capacity > 6 ? 6 : capacity;
    }

    private boolean is(int a, int b) {
        if (a == b) {
            return true;
        }
        for (int c = 0; c < 6; c++) {
            if (links[a][c] && is(c, b)) {
                return true;
            }
        }
        return false;
    }

    private static boolean in(int value, int least, int greatest) {
        return least <= value && value <= greatest;
    }

    boolean extend(int a, int b) {
        if (!in(a, 0, 5) || !in(b, 0, 5) || is(b, a) || is(a, b) || !configs.isEmpty()) {
            return false;
        }
        links[a][b] = true;
        return true;
    }

    int define(int type, int flags, int qualifier, int profile) {
        if (!in(type, 0, 5) || !in(flags, 0, 15) || !in(qualifier, 0, 3) || !in(profile, 0, 3)
                || defs.size() == 10 || !configs.isEmpty()) {
            return -1;
        }
        Def def = new Def();
        def.type = type;
        def.primary = flags % 2 == 1;
        def.lazy = flags / 2 % 2 == 1;
        def.prototype = flags / 4 % 2 == 1;
        def.broken = flags / 8 % 2 == 1;
        def.qualifier = qualifier;
        def.profile = profile;
        defs.add(def);
        return defs.size() - 1;
    }

    boolean need(int definition, int type, int qualifier, int name) {
        if (!in(definition, 0, defs.size() - 1) || !in(type, 0, 5) || !in(qualifier, 0, 3) || !in(name, -1, 9)
                || defs.get(definition).needs.size() == 3 || !configs.isEmpty()) {
            return false;
        }
        defs.get(definition).needs.add(new int[] {type, qualifier, name});
        return true;
    }

    int configure(int set, int profile, int parent, int mocks) {
        if (!in(profile, 0, 3) || configs.size() == 8) {
            return -1;
        }
        Config config = new Config();
        if (parent != -1) {
            if (!in(parent, 0, configs.size() - 1)) {
                return -1;
            }
            config.parent = configs.get(parent);
            if (config.parent.parent != null && config.parent.parent.parent != null) {
                return -1;
            }
        }
        for (int d = 0; d < defs.size(); d++) {
            boolean fits = defs.get(d).profile == 0 || defs.get(d).profile == profile;
            if (fits && (set >>> d) % 2 != 0) {
                config.in.add(d);
                if ((mocks >>> d) % 2 != 0) {
                    config.mocked.add(d);
                }
            }
        }
        configs.add(config);
        return configs.size() - 1;
    }

    private Config config(int number) {
        return in(number, 0, configs.size() - 1) ? configs.get(number) : null;
    }

    int key(int configuration) {
        Config asked = config(configuration);
        for (int i = 0; asked != null && i < configs.size(); i++) {
            if (configs.get(i).keyText().equals(asked.keyText())) {
                return i;
            }
        }
        return -1;
    }

    private Ctx cachedFor(Config config) {
        for (Ctx ctx : contexts) {
            if (ctx.isCached && ctx.config.keyText().equals(config.keyText())) {
                return ctx;
            }
        }
        return null;
    }

    private List<Ctx> cachedOnes(Comparator<Ctx> order) {
        List<Ctx> all = new ArrayList<>();
        for (Ctx ctx : contexts) {
            if (ctx.isCached) {
                all.add(ctx);
            }
        }
        all.sort(order);
        return all;
    }

    private void use(Ctx ctx) {
        List<Ctx> above = ctx.ancestors();
        for (int i = above.size() - 1; i >= 0; i--) {
            above.get(i).use = ++clock;
        }
        ctx.use = ++clock;
    }

    private void log(int event, int n) {
        log.add(64 * event + n);
    }

    int request(int configuration) {
        Config asked = config(configuration);
        return asked == null || ended ? -1 : obtain(asked);
    }

    private int obtain(Config config) {
        Ctx known = cachedFor(config);
        if (known != null) {
            use(known);
            return known.number;
        }
        if (failed.getOrDefault(config.keyText(), 0) == 2) {
            return REFUSED;
        }
        Ctx ctx = new Ctx();
        ctx.config = config;
        if (config.parent != null) {
            int code = obtain(config.parent);
            if (code < 0) {
                return code;
            }
            ctx.parent = cachedFor(config.parent);
        }
        if (contexts.size() == 30) {
            return LIMIT;
        }
        ctx.number = contexts.size();
        contexts.add(ctx);
        int code = build(ctx);
        if (code < 0) {
            return code;
        }
        List<Ctx> eldestFirst = cachedOnes(Comparator.comparingLong((Ctx c) -> c.use));
        if (eldestFirst.size() == capacity) {
            eldestFirst.removeAll(ctx.ancestors());
            close(eldestFirst.get(0));
        }
        ctx.isCached = true;
        use(ctx);
        log(2, ctx.number);
        return ctx.number;
    }

    private int build(Ctx ctx) {
        for (int d : ctx.config.in) {
            Def def = defs.get(d);
            boolean atOnce = ctx.config.mocked.contains(d) || !def.lazy && !def.prototype;
            if (atOnce && beanOf(ctx, d) < 0) {
                int code = supply(ctx, d);
                if (code < 0) {
                    destroyBeans(ctx);
                    failed.merge(ctx.config.keyText(), 1, Integer::sum);
                    log(3, ctx.number);
                    return code;
                }
            }
        }
        return 0;
    }

    private int beanOf(Ctx ctx, int d) {
        for (int b = 0; b < beans.size(); b++) {
            if (beans.get(b).ctx == ctx && beans.get(b).def == d) {
                return b;
            }
        }
        return -1;
    }

    private int supply(Ctx ctx, int d) {
        Def def = defs.get(d);
        boolean mocked = ctx.config.mocked.contains(d);
        if ((!def.prototype || mocked) && beanOf(ctx, d) >= 0) {
            return beanOf(ctx, d);
        }
        Made bean = new Made();
        bean.def = d;
        bean.ctx = ctx;
        bean.mock = mocked;
        if (!mocked) {
            int code = ctx.making.contains(d) ? CIRCULAR : giveNeeds(bean);
            if (code < 0) {
                return code;
            }
        }
        if (beans.size() == 200) {
            return LIMIT;
        }
        beans.add(bean);
        log(1, d);
        return beans.size() - 1;
    }

    private int giveNeeds(Made bean) {
        bean.ctx.making.add(bean.def);
        int code = 0;
        for (int[] need : defs.get(bean.def).needs) {
            code = findAndSupply(bean.ctx, need[0], need[1], need[2]);
            if (code < 0) {
                break;
            }
            bean.given.add(code);
        }
        bean.ctx.making.remove(bean.def);
        return code < 0 ? code : defs.get(bean.def).broken ? BROKEN : 0;
    }

    private int findAndSupply(Ctx ctx, int type, int qualifier, int name) {
        if (ctx == null) {
            return MISSING;
        }
        List<Integer> candidates = new ArrayList<>();
        List<Integer> primary = new ArrayList<>();
        for (int d : ctx.config.in) {
            Def def = defs.get(d);
            if (is(def.type, type) && (qualifier == 0 || def.qualifier == qualifier)) {
                candidates.add(d);
                if (def.primary) {
                    primary.add(d);
                }
            }
        }
        if (candidates.isEmpty()) {
            return findAndSupply(ctx.parent, type, qualifier, name);
        }
        if (candidates.size() == 1) {
            return supply(ctx, candidates.get(0));
        }
        if (primary.size() == 1) {
            return supply(ctx, primary.get(0));
        }
        return primary.isEmpty() && candidates.contains(name) ? supply(ctx, name) : UNCLEAR;
    }

    private void destroyBeans(Ctx ctx) {
        for (int b = beans.size() - 1; b >= 0; b--) {
            Made bean = beans.get(b);
            if (bean.ctx == ctx && (bean.mock || !defs.get(bean.def).prototype)) {
                log(4, bean.def);
            }
        }
        ctx.isGone = true;
    }

    private int close(Ctx ctx) {
        int closed = 1;
        for (Ctx child : cachedOnes(Comparator.comparingInt((Ctx c) -> -c.number))) {
            if (child.parent == ctx) {
                closed += close(child);
            }
        }
        destroyBeans(ctx);
        ctx.isCached = false;
        log(5, ctx.number);
        return closed;
    }

    int dirty(int configuration) {
        Config asked = config(configuration);
        if (asked == null) {
            return -1;
        }
        Ctx ctx = cachedFor(asked);
        return ctx == null ? 0 : close(ctx);
    }

    int shutdown() {
        ended = true;
        int closed = 0;
        for (Ctx ctx : cachedOnes(Comparator.comparingInt((Ctx c) -> -c.number))) {
            closed += ctx.isCached ? close(ctx) : 0;
        }
        return closed;
    }

    private Ctx ctxOf(int configuration) {
        Config asked = config(configuration);
        return asked == null ? null : cachedFor(asked);
    }

    int get(int configuration, int type, int qualifier, int name) {
        Ctx ctx = ctxOf(configuration);
        if (ctx == null || !in(type, 0, 5) || !in(qualifier, 0, 3) || !in(name, -1, 9)) {
            return -1;
        }
        return findAndSupply(ctx, type, qualifier, name);
    }

    private Made bean(int number) {
        return in(number, 0, beans.size() - 1) && !beans.get(number).ctx.isGone ? beans.get(number) : null;
    }

    private Made mock(int number) {
        Made bean = bean(number);
        return bean != null && bean.mock ? bean : null;
    }

    long call(int bean, int x) {
        return bean(bean) == null ? NO_ANSWER : answer(bean(bean), x);
    }

    private int answer(Made bean, int x) {
        if (bean.mock) {
            bean.count++;
            bean.last = x;
            return bean.answer;
        }
        return bean.def + (bean.given.isEmpty() ? x : answer(beans.get(bean.given.get(0)), x + 1));
    }

    boolean stub(int bean, int answer) {
        if (mock(bean) == null) {
            return false;
        }
        mock(bean).answer = answer;
        return true;
    }

    long recorded(int bean, int what) {
        if (mock(bean) == null || !in(what, 0, 1)) {
            return NO_ANSWER;
        }
        return what == 0 ? mock(bean).count : mock(bean).last;
    }

    int reset(int configuration) {
        Ctx ctx = ctxOf(configuration);
        if (ctx == null) {
            return -1;
        }
        List<Ctx> homes = ctx.ancestors();
        homes.add(ctx);
        int mocks = 0;
        for (Made bean : beans) {
            if (bean.mock && homes.contains(bean.ctx)) {
                bean.answer = 0;
                bean.count = 0;
                bean.last = 0;
                mocks++;
            }
        }
        return mocks;
    }

    int wired(int bean, int k) {
        Made asked = bean(bean);
        return asked == null || asked.mock || !in(k, 0, asked.given.size() - 1) ? -1 : asked.given.get(k);
    }

    int definition(int bean) {
        return bean(bean) == null ? -1 : bean(bean).def;
    }

    int cached(int k) {
        List<Ctx> latestFirst = cachedOnes(Comparator.comparingLong((Ctx c) -> -c.use));
        return in(k, 0, latestFirst.size() - 1) ? latestFirst.get(k).number : -1;
    }

    int failures(int configuration) {
        Config asked = config(configuration);
        return asked == null ? -1 : failed.getOrDefault(asked.keyText(), 0);
    }

    int events() {
        return log.size();
    }

    int event(int k) {
        return in(k, 0, 31) && k < log.size() ? log.get(log.size() - 1 - k) : -1;
    }
}
