import java.util.HashSet;
import java.util.Set;

/**
 * Long runs of calls, drawn by a fixed rule, on the program and on DocModel: every answer has to be
 * the same. Some runs draw their needs blindly, so that most builds fail; in others each definition
 * needs later ones that are there, so that rows of beans grow long and the limits are met. Some look
 * at everything after each call, others use their calls up and look at the end. At last each code must
 * have been met by each call that can answer it, else the runs would prove little.
 */
public final class ModelTest {
    private static final Checks CHECKS = new Checks("ModelTest");
    private static final int RUNS = 6000;
    private static final int CALLS = 512;
    private static final int CALLS_OF_LAST_LOOK = 40;
    private static final int[] ODD = {-2, -1, 4, 6, 8, 10, 16, 32, 200, Integer.MIN_VALUE, Integer.MAX_VALUE};

    private final BeanContexts x;
    private final DocModel model;
    private final int run;
    private final Set<String> met;
    private final boolean wellMade;
    private final boolean watchful;
    private final int[] types = new int[10];
    private final int[] qualifiers = new int[10];
    private int definitions;
    private int configurations;
    private int calls;
    private long state;

    private ModelTest(int run, Set<String> met) {
        this.run = run;
        this.met = met;
        state = run * 2654435761L + 12345;
        wellMade = draw(2) == 0;
        watchful = draw(2) == 0;
        int capacity = odd(2 + draw(6));
        x = new BeanContexts(capacity);
        model = new DocModel(capacity);
    }

    public static void main(String[] args) {
        Set<String> met = new HashSet<>();
        for (int run = 0; run < RUNS; run++) {
            new ModelTest(run, met).play();
        }
        for (int code = -3; code >= -8; code--) {
            CHECKS.due("request has answered " + code, met.contains("request " + code), true);
        }
        for (int code = -3; code >= -7; code--) {
            CHECKS.due("get has answered " + code, met.contains("get " + code), true);
            CHECKS.due("a build has failed with " + code, met.contains("failed " + code), true);
        }
        CHECKS.end();
    }

    private int draw(int bound) {
        state = state * 6364136223846793005L + 1442695040888963407L;
        return (int) ((state >>> 33) % bound);
    }

    private boolean oneIn(int bound) {
        return draw(bound) == 0;
    }

    /** Mostly the argument itself, at times a wrong one. */
    private int odd(int argument) {
        return oneIn(60) ? ODD[draw(ODD.length)] : argument;
    }

    private void same(String call, long got, long want) {
        calls++;
        CHECKS.due("run " + run + ", " + call, got, want);
    }

    private void same(String call, boolean got, boolean want) {
        same(call, got ? 1L : 0L, want ? 1L : 0L);
    }

    private void play() {
        drawDefinitions();
        for (int i = 3 + draw(8); i > 0; i--) {
            configureOne();
        }
        boolean mayEnd = oneIn(3);
        boolean hungry = oneIn(3);
        while (calls < CALLS - CALLS_OF_LAST_LOOK) {
            int events = model.events();
            if (hungry && !oneIn(4)) {
                getOne(anyConfiguration());
            } else {
                act(mayEnd && calls > CALLS / 2);
            }
            if (watchful) {
                look(model.events() - events);
            }
        }
        look(32);
    }

    /** At the cached contexts and at the latest events, as far as there are calls left. */
    private void look(int events) {
        for (int k = 0; k < 7 && calls < CALLS; k++) {
            same("cached(" + k + ")", x.cached(k), model.cached(k));
        }
        for (int k = 0; k < events && k < 32 && calls < CALLS; k++) {
            same("event(" + k + ")", x.event(k), model.event(k));
        }
    }

    private void drawDefinitions() {
        for (int i = draw(wellMade ? 3 : 7); i > 0; i--) {
            extendOne();
        }
        boolean manyBroken = oneIn(wellMade ? 16 : 4);
        boolean manyPrototypes = oneIn(wellMade ? 2 : 3);
        for (int i = 3 + draw(9); i > 0; i--) {
            int flags = oneIn(wellMade ? 12 : 4) ? 1 : 0;
            flags += oneIn(3) ? 2 : 0;
            flags += oneIn(manyPrototypes ? 2 : 5) ? 4 : 0;
            flags += oneIn(manyBroken ? 4 : wellMade ? 100 : 40) ? 8 : 0;
            defineOne(flags);
        }
        for (int i = draw((wellMade ? 4 : 2) * definitions + 1); i > 0; i--) {
            if (wellMade && !oneIn(40)) {
                needALaterOne();
            } else {
                needOne();
            }
        }
    }

    private void extendOne() {
        int a = odd(draw(6));
        int b = odd(draw(6));
        same("extend(" + a + ", " + b + ")", x.extend(a, b), model.extend(a, b));
    }

    private void defineOne(int flags) {
        int type = odd(draw(6));
        int sum = odd(flags);
        int qualifier = odd(draw(4));
        int profile = odd(wellMade && !oneIn(8) ? 0 : draw(2) * draw(4));
        int number = model.define(type, sum, qualifier, profile);
        if (number >= 0) {
            types[number] = type;
            qualifiers[number] = qualifier;
            definitions = number + 1;
        }
        same("define(" + type + ", " + sum + ", " + qualifier + ", " + profile + ")",
                x.define(type, sum, qualifier, profile), number);
    }

    private void needOne() {
        need(odd(draw(10)), odd(draw(6)), odd(oneIn(3) ? draw(4) : 0), odd(draw(11) - 1));
    }

    /** Mostly the very next one, so that the rows grow long. */
    private void needALaterOne() {
        int d = draw(10);
        int later = d + 1 + draw(2) * draw(3);
        if (later < definitions) {
            need(d, types[later], draw(2) * qualifiers[later], later);
        }
    }

    private void need(int d, int type, int qualifier, int name) {
        same("need(" + d + ", " + type + ", " + qualifier + ", " + name + ")",
                x.need(d, type, qualifier, name), model.need(d, type, qualifier, name));
    }

    private void configureOne() {
        int set = wellMade && !oneIn(3) ? 1023 : oneIn(3) ? draw(1024) : draw(1024) | draw(1024);
        set = odd(set);
        int profile = odd(draw(4));
        int parent = odd(oneIn(2) ? -1 : draw(8));
        int mocks = odd(oneIn(2) ? 0 : draw(1024) & draw(1024));
        int number = model.configure(set, profile, parent, mocks);
        configurations = Math.max(configurations, number + 1);
        same("configure(" + set + ", " + profile + ", " + parent + ", " + mocks + ")",
                x.configure(set, profile, parent, mocks), number);
    }

    private int anyConfiguration() {
        return odd(draw(configurations + 1));
    }

    private void getOne(int c) {
        int type = odd(definitions > 0 && !oneIn(4) ? types[draw(definitions)] : draw(6));
        int qualifier = odd(draw(2) * draw(4));
        int name = odd(draw(11) - 1);
        int answer = model.get(c, type, qualifier, name);
        met.add("get " + answer);
        same("get(" + c + ", " + type + ", " + qualifier + ", " + name + ")",
                x.get(c, type, qualifier, name), answer);
    }

    private void requestOne(int c) {
        int events = model.events();
        int answer = model.request(c);
        met.add("request " + answer);
        if (model.events() > events && model.event(0) / 64 == 3) {
            met.add("failed " + answer);
        }
        same("request(" + c + ")", x.request(c), answer);
    }

    /** Calls that are refused once a configuration is there. */
    private void defineTooLate() {
        int what = draw(3);
        if (what == 0) {
            extendOne();
        } else if (what == 1) {
            defineOne(draw(16));
        } else {
            needOne();
        }
    }

    /** One call, chosen with weights. */
    private void act(boolean mayEnd) {
        int what = draw(40);
        if (what < 9) {
            requestOne(anyConfiguration());
        } else if (what < 18) {
            getOne(anyConfiguration());
        } else if (what < 35) {
            actOnABean(what - 18);
        } else if (what < 39) {
            actOnAConfiguration(draw(6));
        } else if (mayEnd && oneIn(6)) {
            same("shutdown()", x.shutdown(), model.shutdown());
        } else if (oneIn(2)) {
            defineTooLate();
        } else {
            configureOne();
        }
    }

    private void actOnABean(int what) {
        int bean = odd(oneIn(3) ? draw(200) : draw(25));
        int number = oneIn(5) ? Integer.MAX_VALUE - draw(4) : draw(100) - 50;
        int k = odd(draw(3));
        if (what < 5) {
            same("call(" + bean + ", " + number + ")", x.call(bean, number), model.call(bean, number));
        } else if (what < 8) {
            same("stub(" + bean + ", " + number + ")", x.stub(bean, number), model.stub(bean, number));
        } else if (what < 12) {
            same("recorded(" + bean + ", " + k + ")", x.recorded(bean, k), model.recorded(bean, k));
        } else if (what < 15) {
            same("wired(" + bean + ", " + k + ")", x.wired(bean, k), model.wired(bean, k));
        } else {
            same("definition(" + bean + ")", x.definition(bean), model.definition(bean));
        }
    }

    private void actOnAConfiguration(int what) {
        int c = anyConfiguration();
        int k = odd(draw(32));
        if (what < 2) {
            same("dirty(" + c + ")", x.dirty(c), model.dirty(c));
        } else if (what == 2) {
            same("reset(" + c + ")", x.reset(c), model.reset(c));
        } else if (what == 3) {
            same("failures(" + c + ")", x.failures(c), model.failures(c));
        } else if (what == 4) {
            same("key(" + c + ")", x.key(c), model.key(c));
        } else {
            same("events()", x.events(), model.events());
            same("event(" + k + ")", x.event(k), model.event(k));
        }
    }
}
