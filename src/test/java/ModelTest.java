/**
 * Long runs of calls, drawn by a fixed rule, on the program and on DocModel: every answer has to be
 * the same. At the end each code must have been met, else the runs would prove little.
 */
public final class ModelTest {
    private static final Checks CHECKS = new Checks("ModelTest");
    private static final int RUNS = 4000;
    private static final int CALLS = 512;
    private static final int[] ODD = {-2, -1, 4, 6, 8, 10, 16, 32, 200, Integer.MIN_VALUE, Integer.MAX_VALUE};

    private final BeanContexts x;
    private final DocModel model;
    private final int run;
    private final int[] met;
    private long state;

    private ModelTest(int run, int[] met) {
        this.run = run;
        this.met = met;
        state = run * 2654435761L + 12345;
        int capacity = odd(2 + draw(6));
        x = new BeanContexts(capacity);
        model = new DocModel(capacity);
    }

    public static void main(String[] args) {
        int[] met = new int[9];
        for (int run = 0; run < RUNS; run++) {
            new ModelTest(run, met).play();
        }
        for (int code = 3; code <= 8; code++) {
            CHECKS.due("the code -" + code + " was met", met[code] > 0, true);
        }
        CHECKS.end();
    }

    private int draw(int bound) {
        state = state * 6364136223846793005L + 1442695040888963407L;
        return (int) ((state >>> 33) % bound);
    }

    /** Mostly the argument itself, at times a wrong one. */
    private int odd(int argument) {
        return draw(60) == 0 ? ODD[draw(ODD.length)] : argument;
    }

    private void same(String call, long got, long want) {
        CHECKS.due("run " + run + ", " + call, got, want);
        if (want <= -3 && want >= -8) {
            met[(int) -want]++;
        }
    }

    private void same(String call, boolean got, boolean want) {
        CHECKS.due("run " + run + ", " + call, got, want);
    }

    private void play() {
        int calls = define() + configure();
        boolean mayEnd = draw(3) == 0;
        boolean hungry = draw(5) == 0;
        while (calls < CALLS) {
            int events = model.events();
            if (hungry && draw(4) != 0) {
                getOne(draw(8));
                calls++;
                continue;
            }
            calls += 1 + act(mayEnd && calls > CALLS / 2);
            for (int k = 0; k < model.events() - events && k < 32 && calls < CALLS; k++) {
                same("event(" + k + ")", x.event(k), model.event(k));
                calls++;
            }
        }
    }

    /** What can be defined, drawn at once; answers how many calls that took. */
    private int define() {
        int calls = 0;
        for (int i = draw(7); i > 0; i--) {
            extendOne();
            calls++;
        }
        boolean manyBroken = draw(4) == 0;
        boolean manyPrototypes = draw(3) == 0;
        int definitions = 3 + draw(9);
        for (int i = 0; i < definitions; i++) {
            int flags = draw(4) == 0 ? 1 : 0;
            flags += draw(3) == 0 ? 2 : 0;
            flags += draw(manyPrototypes ? 2 : 5) == 0 ? 4 : 0;
            flags += draw(manyBroken ? 4 : 40) == 0 ? 8 : 0;
            defineOne(flags);
            calls++;
        }
        int needs = draw(2 * definitions);
        for (int i = 0; i < needs; i++) {
            needOne(definitions);
            calls++;
        }
        return calls;
    }

    private void extendOne() {
        int a = odd(draw(6));
        int b = odd(draw(6));
        same("extend(" + a + ", " + b + ")", x.extend(a, b), model.extend(a, b));
    }

    private void defineOne(int flags) {
        int type = odd(draw(6));
        int sum = odd(flags);
        int qualifier = odd(draw(4));
        int profile = odd(draw(2) * draw(4));
        same("define(" + type + ", " + sum + ", " + qualifier + ", " + profile + ")",
                x.define(type, sum, qualifier, profile), model.define(type, sum, qualifier, profile));
    }

    private void needOne(int definitions) {
        int d = odd(draw(definitions));
        int type = odd(draw(6));
        int qualifier = odd(draw(3) == 0 ? draw(4) : 0);
        int name = odd(draw(11) - 1);
        same("need(" + d + ", " + type + ", " + qualifier + ", " + name + ")",
                x.need(d, type, qualifier, name), model.need(d, type, qualifier, name));
    }

    private int configure() {
        int calls = 0;
        for (int i = 3 + draw(8); i > 0; i--) {
            configureOne();
            calls++;
        }
        return calls;
    }

    private void configureOne() {
        int set = draw(3) == 0 ? draw(1024) : draw(1024) | draw(1024);
        int profile = odd(draw(4));
        int parent = odd(draw(2) == 0 ? -1 : draw(8));
        int mocks = odd(draw(2) == 0 ? 0 : draw(1024) & draw(1024));
        set = odd(set);
        same("configure(" + set + ", " + profile + ", " + parent + ", " + mocks + ")",
                x.configure(set, profile, parent, mocks), model.configure(set, profile, parent, mocks));
    }

    private void getOne(int c) {
        int type = odd(draw(6));
        int qualifier = odd(draw(2) * draw(4));
        int name = odd(draw(11) - 1);
        same("get(" + c + ", " + type + ", " + qualifier + ", " + name + ")",
                x.get(c, type, qualifier, name), model.get(c, type, qualifier, name));
    }

    /** Calls that are refused once a configuration is there. */
    private void defineTooLate() {
        int what = draw(3);
        if (what == 0) {
            extendOne();
        } else if (what == 1) {
            defineOne(draw(16));
        } else {
            needOne(10);
        }
    }

    /** One call, chosen with weights; answers how many calls more it made. */
    private int act(boolean mayEnd) {
        int c = odd(draw(8));
        int bean = odd(draw(3) == 0 ? draw(200) : draw(25));
        int what = draw(40);
        if (what < 9) {
            same("request(" + c + ")", x.request(c), model.request(c));
            for (int k = 0; k < 7; k++) {
                same("cached(" + k + ")", x.cached(k), model.cached(k));
            }
            return 7;
        } else if (what < 18) {
            getOne(c);
        } else if (what < 22) {
            int argument = draw(5) == 0 ? Integer.MAX_VALUE - draw(4) : draw(100) - 50;
            same("call(" + bean + ", " + argument + ")", x.call(bean, argument), model.call(bean, argument));
        } else if (what < 25) {
            int answer = draw(5) == 0 ? Integer.MAX_VALUE - draw(4) : draw(100) - 50;
            same("stub(" + bean + ", " + answer + ")", x.stub(bean, answer), model.stub(bean, answer));
        } else if (what < 28) {
            int k = odd(draw(2));
            same("recorded(" + bean + ", " + k + ")", x.recorded(bean, k), model.recorded(bean, k));
        } else if (what < 30) {
            same("dirty(" + c + ")", x.dirty(c), model.dirty(c));
        } else if (what < 31) {
            same("reset(" + c + ")", x.reset(c), model.reset(c));
        } else if (what < 34) {
            int k = odd(draw(3));
            same("wired(" + bean + ", " + k + ")", x.wired(bean, k), model.wired(bean, k));
        } else if (what < 35) {
            same("definition(" + bean + ")", x.definition(bean), model.definition(bean));
        } else if (what < 36) {
            same("failures(" + c + ")", x.failures(c), model.failures(c));
        } else if (what < 37) {
            same("key(" + c + ")", x.key(c), model.key(c));
        } else if (what < 38) {
            same("events()", x.events(), model.events());
        } else if (what < 39) {
            int k = odd(draw(32));
            same("event(" + k + ")", x.event(k), model.event(k));
        } else if (mayEnd && draw(6) == 0) {
            same("shutdown()", x.shutdown(), model.shutdown());
        } else if (draw(2) == 0) {
            defineTooLate();
        } else {
            configureOne();
        }
        return 0;
    }
}
