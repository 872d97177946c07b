import java.util.Random;

/** All promises: long runs of calls, drawn from fixed seeds, each answer held against the Oracle's. */
public final class OracleTest {
    private static final int RUNS = 3000;
    private static final int CALLS = 512;
    /** A search with the reading behind it; what an object answers after its 512th call is free. */
    private static final int CALLS_OF_A_STEP = 10;
    private static final float[] FLOATS = {0f, -0f, 1f, -1f, 0.5f, 0.1f, -0.3f, 2f, 3f, 1e-30f, -1e-30f,
        Float.MIN_VALUE, 1048576f, -1048576f, 1000.7f};
    private static final float[] WRONG = {Float.NaN, Float.POSITIVE_INFINITY, Float.NEGATIVE_INFINITY, 1048577f,
        -1048577f, Float.MAX_VALUE};

    private final Checks checks;
    private final int run;
    private final Random random;
    private final HybridSearch x = new HybridSearch();
    private final Oracle o = new Oracle();
    private final int terms;
    private final boolean coarse;
    private int calls;

    private OracleTest(Checks checks, int run) {
        this.checks = checks;
        this.run = run;
        this.random = new Random(run);
        this.terms = 1 + random.nextInt(12);
        this.coarse = random.nextBoolean();
    }

    public static void main(String[] args) {
        Checks checks = new Checks("OracleTest");
        for (int run = 0; run < RUNS; run++) {
            new OracleTest(checks, run).go();
        }
        checks.end();
    }

    private void go() {
        int documents = random.nextInt(17);
        for (int i = 0; i < documents; i++) {
            document();
        }
        int changes = random.nextInt(200);
        for (int i = 0; i < changes; i++) {
            change();
        }
        while (calls <= CALLS - CALLS_OF_A_STEP) {
            int kind = random.nextInt(100);
            if (kind < 4) {
                change();
            } else if (kind < 20) {
                ask();
            } else if (kind < 22) {
                calls++;
                x.clear();
                o.clear();
            } else if (kind < 45) {
                search();
            } else if (kind < 55) {
                fuse();
            } else {
                read();
            }
        }
    }

    private void same(String call, String due, String got) {
        calls++;
        checks.same("run " + run + ", call " + calls + ", " + call, due, got);
    }

    private boolean rarely() {
        return random.nextInt(25) == 0;
    }

    private int number(int below) {
        return rarely() ? random.nextInt(below + 6) - 3 : random.nextInt(below);
    }

    private int term() {
        return rarely() ? number(12) : random.nextInt(terms);
    }

    private float real() {
        if (random.nextInt(100) == 0) {
            return WRONG[random.nextInt(WRONG.length)];
        }
        if (coarse) {
            return random.nextInt(5) - 2;
        }
        return random.nextBoolean() ? FLOATS[random.nextInt(FLOATS.length)] : random.nextFloat() * 20 - 10;
    }

    private void document() {
        same("document", Checks.outcome(o::document), Checks.outcome(x::document));
    }

    private void change() {
        int d = number(16);
        int t = term();
        float a = real();
        float b = real();
        float c = real();
        float e = real();
        switch (random.nextInt(16)) {
            case 0:
                document();
                break;
            case 1:
                same("centroid", Checks.outcome(() -> o.centroid(a, b, c, e)),
                        Checks.outcome(() -> x.centroid(a, b, c, e)));
                break;
            case 2: case 3: case 4:
                same("token", Checks.outcome(() -> o.token(d, a, b, c, e)),
                        Checks.outcome(() -> x.token(d, a, b, c, e)));
                break;
            case 5: case 6: case 7: case 8:
                float w = a < 0 && !rarely() ? -a : a;
                same("weigh", Checks.outcomeVoid(() -> o.weigh(d, t, w)), Checks.outcomeVoid(() -> x.weigh(d, t, w)));
                break;
            default:
                same("count", Checks.outcome(() -> o.count(d, t)), Checks.outcome(() -> x.count(d, t)));
                break;
        }
    }

    private void ask() {
        int t = term();
        int w = random.nextBoolean() ? 1 + random.nextInt(3) : number(101);
        float a = real();
        float b = real();
        float c = real();
        float d = real();
        switch (random.nextInt(3)) {
            case 0:
                same("word", Checks.outcome(() -> o.word(t)), Checks.outcome(() -> x.word(t)));
                break;
            case 1:
                same("impact", Checks.outcome(() -> o.impact(t, w)), Checks.outcome(() -> x.impact(t, w)));
                break;
            default:
                same("vector", Checks.outcome(() -> o.vector(a, b, c, d)), Checks.outcome(() -> x.vector(a, b, c, d)));
                break;
        }
    }

    private void search() {
        int view = number(3);
        int how = rarely() ? number(3) : random.nextBoolean() ? 0 : view == 2 ? 2 : 1;
        int k = random.nextInt(3) == 0 ? number(21) : random.nextInt(5);
        int shards = 1 + number(3);
        same("search", Checks.outcome(() -> o.search(view, how, k, shards)),
                Checks.outcome(() -> x.search(view, how, k, shards)));
        for (int i = 0; i < 3; i++) {
            work(view, i);
            hit(view, i);
        }
    }

    private void fuse() {
        int way = number(3);
        same("fuse", Checks.outcome(() -> o.fuse(way)), Checks.outcome(() -> x.fuse(way)));
        for (int i = 0; i < 3; i++) {
            fused(i);
        }
    }

    private void hit(int view, int i) {
        same("hit", Checks.outcome(() -> o.hit(view, i)), Checks.outcome(() -> x.hit(view, i)));
        same("score", Checks.outcomeDouble(() -> o.score(view, i)), Checks.outcomeDouble(() -> x.score(view, i)));
    }

    private void work(int view, int what) {
        same("work", Checks.outcome(() -> o.work(view, what)), Checks.outcome(() -> x.work(view, what)));
    }

    private void fused(int i) {
        same("fused", Checks.outcome(() -> o.fused(i)), Checks.outcome(() -> x.fused(i)));
        same("rating", Checks.outcomeDouble(() -> o.rating(i)), Checks.outcomeDouble(() -> x.rating(i)));
    }

    private void read() {
        switch (random.nextInt(5)) {
            case 0:
                double n = 1 / random.nextDouble() - (rarely() ? 1 : 0);
                same("log", Checks.outcomeDouble(() -> o.log(n)), Checks.outcomeDouble(() -> x.log(n)));
                break;
            case 1:
                int d = number(16);
                int t = term();
                same("quantised", Checks.outcome(() -> o.quantised(d, t)), Checks.outcome(() -> x.quantised(d, t)));
                break;
            case 2:
                work(number(3), number(3));
                break;
            case 3:
                fused(number(16));
                break;
            default:
                hit(number(3), number(16));
                break;
        }
    }
}
