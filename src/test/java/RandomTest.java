import java.util.Random;

/** All promises: runs of calls by chance (from fixed seeds), each answer compared with the Model's. */
public final class RandomTest {
    private static final int OBJECTS = 6000;
    private static final int CALLS = 512;

    private final Due due;
    private final Random random;
    private final SteadyCompiler x = new SteadyCompiler();
    private final Model y = new Model();
    private final String name;
    private int calls;
    private static final int[] outcomes = new int[16];

    private RandomTest(Due due, int seed) {
        this.due = due;
        this.random = new Random(seed);
        this.name = "seed " + seed + " ";
    }

    public static void main(String[] args) {
        Due due = new Due("RandomTest");
        for (int seed = 0; seed < OBJECTS; seed++) {
            new RandomTest(due, seed).play();
        }
        due.holds("programs ran to their end, were CUT and TRAPped, and had each fault: " + java.util.Arrays.toString(outcomes),
            outcomes[0] > 1000 && outcomes[4] > 20 && outcomes[5] > 100 && outcomes[11] > 100 && outcomes[12] > 100
            && outcomes[13] > 20 && outcomes[14] > 100);
        due.end();
    }

    private void play() {
        declare();
        while (calls < CALLS - 150) {
            int what = random.nextInt(12);
            if (what == 0) {
                declareOne();
            } else if (what < 5) {
                compile();
            } else if (what < 8) {
                fill();
                run();
            } else {
                plain();
            }
            look();
        }
    }

    private void same(String call, long got, long want) {
        calls++;
        due.same(name + call, got, want);
    }

    private int near(int bound) {
        return random.nextInt(12) == 0 ? Scribe.number(random) : random.nextInt(bound);
    }

    private void declare() {
        for (int i = 0; i < 8; i++) {
            declareOne();
        }
    }

    private void declareOne() {
        boolean secret = random.nextInt(3) > 0;
        if (random.nextBoolean()) {
            int v = near(10);
            same("variable(" + v + ", " + secret + ")", x.variable(v, secret), y.variable(v, secret));
        } else {
            int t = near(4);
            int n = near(17);
            same("table(" + t + ", " + secret + ", " + n + ")", x.table(t, secret, n), y.table(t, secret, n));
        }
    }

    private void compile() {
        int[] tokens = new Scribe(random, y.secretVariables, y.secretTables, 20 + random.nextInt(80)).write();
        if (random.nextInt(4) == 0) {
            tokens[random.nextInt(tokens.length)] = random.nextInt(3) == 0 ? Scribe.number(random) : random.nextInt(38);
        }
        if (random.nextInt(6) == 0) {
            tokens = Due.join(Due.times(random.nextInt(12), 6, 1), tokens);
        }
        int length = random.nextInt(12) == 0 ? random.nextInt(tokens.length) : Math.min(tokens.length, CALLS - 60 - calls);
        for (int i = 0; i < length; i++) {
            same("token(" + tokens[i] + ")", x.token(tokens[i]), y.token(tokens[i]));
        }
        int answer = y.check();
        outcomes[answer < -10 ? -answer : 1]++;
        same("check()", x.check(), answer);
        same("place()", x.place(), y.faultPlace);
        same("count(1)", x.count(1), y.code.size());
        for (int i = random.nextInt(3); i < y.code.size() && calls < CALLS - 60; i += 1 + random.nextInt(3)) {
            same("code(" + i + ")", x.code(i), y.code.get(i));
        }
    }

    private void fill() {
        for (int i = random.nextInt(6); i > 0; i--) {
            int n = Scribe.number(random);
            int v = random.nextInt(10);
            int was = y.variables[v];
            y.variables[v] = n;
            same("set(" + v + ", " + n + ")", x.set(v, n), was);
            int t = random.nextInt(4);
            int p = random.nextInt(y.tables[t].length);
            was = y.tables[t][p];
            y.tables[t][p] = n;
            same("put(" + t + ", " + p + ", " + n + ")", x.put(t, p, n), was);
        }
    }

    private void run() {
        int answer = y.run();
        if (answer != -2) {
            outcomes[answer > 0 ? 0 : -answer]++;
        }
        same("run()", x.run(), answer);
    }

    private void plain() {
        same("plain()", x.plain(), y.plain());
    }

    private void look() {
        same("mark()", x.mark(), y.mark());
        same("count(0)", x.count(0), y.text.size());
        same("count(2)", x.count(2), y.told.size());
        same("count(3)", x.count(3), y.trace.size());
        for (int i = 0; i < 3; i++) {
            int v = random.nextInt(10);
            same("get(" + v + ")", x.get(v), y.variables[v]);
            int t = random.nextInt(4);
            int p = random.nextInt(16);
            same("at(" + t + ", " + p + ")", x.at(t, p), p < y.tables[t].length ? y.tables[t][p] : -2);
            int n = random.nextInt(Math.max(1, y.told.size() + 1));
            same("told(" + n + ")", x.told(n), n < y.told.size() && n < 300 ? y.told.get(n) : 0);
            n = random.nextInt(Math.max(1, y.trace.size() + 1));
            same("trace(" + n + ")", x.trace(n), n < y.trace.size() && n < 5000 ? y.trace.get(n) : -1);
        }
    }
}
