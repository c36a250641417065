import java.util.Random;

/**
 * What the language is for, on programs by chance (from fixed seeds): other secrets give the same trace and the same
 * told numbers, and a run of CODE leaves the same numbers as a PLAIN one.
 */
public final class SteadyTest {
    private static final int PROGRAMS = 6000;

    public static void main(String[] args) {
        Due due = new Due("SteadyTest");
        int accepted = 0;
        for (int seed = 0; seed < PROGRAMS; seed++) {
            accepted += tryOne(due, seed) ? 1 : 0;
        }
        due.holds("enough programs had no fault: " + accepted, accepted > PROGRAMS / 4);
        due.end();
    }

    private static boolean tryOne(Due due, int seed) {
        Random random = new Random(seed);
        boolean[] secretVariables = new boolean[10];
        boolean[] secretTables = new boolean[4];
        int[] sizes = new int[4];
        for (int v = 0; v < 10; v++) {
            secretVariables[v] = random.nextBoolean();
        }
        for (int t = 0; t < 4; t++) {
            secretTables[t] = random.nextBoolean();
            sizes[t] = 1 + random.nextInt(16);
        }
        int[] text = new Scribe(random, secretVariables, secretTables, 120).write();
        int fill = random.nextInt();
        SteadyCompiler one = made(secretVariables, secretTables, sizes, fill, 1);
        SteadyCompiler two = made(secretVariables, secretTables, sizes, fill, 2);
        SteadyCompiler walked = made(secretVariables, secretTables, sizes, fill, 1);
        if (Due.feed(one, text) < 0) {
            return false;
        }
        Due.feed(two, text);
        Due.feed(walked, text);
        String name = "seed " + seed + " ";
        int answer = one.run();
        due.same(name + "run() with other secrets", two.run(), answer);
        due.same(name + "mark() with other secrets", two.mark(), one.mark());
        due.same(name + "count(3) with other secrets", two.count(3), one.count(3));
        sameTold(due, name + "with other secrets ", two, one);
        int turns = walked.plain();
        if (answer != SteadyCompiler.CUT && turns != SteadyCompiler.CUT) {
            due.same(name + "plain() TRAPs as run() does", turns == SteadyCompiler.TRAP ? 1 : 0, answer == SteadyCompiler.TRAP ? 1 : 0);
            sameTold(due, name + "of plain() ", walked, one);
            sameNumbers(due, name, walked, one, sizes);
        }
        return true;
    }

    private static SteadyCompiler made(boolean[] secretVariables, boolean[] secretTables, int[] sizes, int open, int secret) {
        SteadyCompiler x = new SteadyCompiler();
        Random openly = new Random(open);
        Random secretly = new Random(secret);
        for (int v = 0; v < 10; v++) {
            x.variable(v, secretVariables[v]);
            x.set(v, Scribe.number(secretVariables[v] ? secretly : openly));
        }
        for (int t = 0; t < 4; t++) {
            x.table(t, secretTables[t], sizes[t]);
            for (int i = 0; i < sizes[t]; i++) {
                x.put(t, i, Scribe.number(secretTables[t] ? secretly : openly));
            }
        }
        return x;
    }

    private static void sameTold(Due due, String name, SteadyCompiler a, SteadyCompiler b) {
        due.same(name + "count(2)", a.count(2), b.count(2));
        for (int i = 0; i < 10; i++) {
            due.same(name + "told(" + i + ")", a.told(i), b.told(i));
        }
    }

    private static void sameNumbers(Due due, String name, SteadyCompiler a, SteadyCompiler b, int[] sizes) {
        for (int v = 0; v < 10; v++) {
            due.same(name + "get(" + v + ") of plain()", a.get(v), b.get(v));
        }
        for (int t = 0; t < 4; t++) {
            for (int i = 0; i < sizes[t]; i++) {
                due.same(name + "at(" + t + ", " + i + ") of plain()", a.at(t, i), b.at(t, i));
            }
        }
    }
}
