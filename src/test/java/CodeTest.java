/** Promise 7 (and what promise 5 answers): the CODE of each S and E. */
public final class CodeTest {
    public static void main(String[] args) {
        Due due = new Due("CodeTest");
        expressions(due);
        statements(due);
        loops(due);
        masks(due);
        tables(due);
        deepLoops(due);
        longest(due);
        noWords(due);
        due.end();
    }

    /** An object whose variables 1, 2 and TABLES 1, 2 are SECRET. */
    private static SteadyCompiler secrets() {
        SteadyCompiler x = new SteadyCompiler();
        x.variable(1, true);
        x.variable(2, true);
        x.table(1, true, 4);
        x.table(2, true, 5);
        return x;
    }

    private static void expressions(Due due) {
        due.code(new SteadyCompiler(), Due.t(0), 0);
        due.code(new SteadyCompiler(), Due.t(7, 20, -9, 0), 1, -9, 20, 0);
        due.code(new SteadyCompiler(), Due.t(7, 21, 9, 0), 2, 9, 20, 0);
        for (int e = 22; e <= 34; e++) {
            if (e != 32) {
                due.code(new SteadyCompiler(), Due.t(7, e, 20, 5, 21, 6, 0), 1, 5, 2, 6, e - 18, 20, 0);
            }
        }
        due.code(new SteadyCompiler(), Due.t(7, 32, 21, 6, 0), 2, 6, 14, 20, 0);
        due.code(new SteadyCompiler(), Due.t(7, 35, 3, 20, 6, 0), 1, 6, 21, 3, 20, 0);
        due.code(new SteadyCompiler(), Due.t(7, 36, 20, 1, 21, 2, 20, 3, 0), 1, 1, 2, 2, 1, 3, 17, 20, 0);
        due.code(new SteadyCompiler(), Due.t(7, 23, 24, 20, 1, 20, 2, 25, 20, 3, 20, 4, 0),
            1, 1, 1, 2, 6, 1, 3, 1, 4, 7, 5, 20, 0);
    }

    private static void statements(Due due) {
        due.code(new SteadyCompiler(), Due.t(1, 4, 20, 7, 0), 1, 7, 3, 4, 0);
        due.code(new SteadyCompiler(), Due.t(2, 3, 20, 1, 20, 2, 0), 1, 1, 1, 2, 22, 3, 0);
        due.code(new SteadyCompiler(), Due.t(3, 21, 0, 7, 20, 1, 0, 0), 2, 0, 19, 7, 1, 1, 20, 0);
        due.code(new SteadyCompiler(), Due.t(3, 21, 0, 7, 20, 1, 4, 7, 20, 2, 0, 7, 20, 3, 0),
            2, 0, 19, 9, 1, 1, 20, 18, 12, 1, 2, 20, 1, 3, 20, 0);
        due.code(new SteadyCompiler(), Due.t(3, 20, 1, 0, 0), 1, 1, 19, 4, 0);
        due.code(new SteadyCompiler(), Due.t(3, 20, 1, 4, 0, 0), 1, 1, 19, 6, 18, 6, 0);
    }

    private static void loops(Due due) {
        due.code(new SteadyCompiler(), Due.t(7, 20, 1, 5, 21, 0, 7, 20, 2, 0, 7, 20, 3, 0),
            1, 1, 20, 2, 0, 19, 12, 1, 2, 20, 18, 3, 1, 3, 20, 0);
        due.code(new SteadyCompiler(), Due.t(7, 20, 1, 6, 20, 7, 20, 2, 0, 7, 20, 3, 0),
            1, 1, 20, 29, 0, 30, 0, 1, 20, 12, 19, 19, 1, 2, 20, 31, 0, 18, 5, 1, 3, 20, 0);
        due.code(new SteadyCompiler(), Due.t(6, 2, 5, 20, 0, 6, 3, 0, 0, 0, 6, 4, 0, 0),
            29, 0, 30, 0, 1, 2, 12, 19, 32, 1, 0, 19, 28,
            29, 1, 30, 1, 1, 3, 12, 19, 26, 31, 1, 18, 15, 18, 9, 31, 0, 18, 2,
            29, 0, 30, 0, 1, 4, 12, 19, 45, 31, 0, 18, 34, 0);
    }

    private static void masks(Due due) {
        due.code(secrets(), Due.t(3, 21, 1, 1, 2, 20, 5, 0, 1, 2, 20, 6, 0), 2, 1, 23, 1, 1, 5, 25, 1, 2, 1, 6, 3, 2, 0);
        due.code(secrets(), Due.t(3, 21, 1, 4, 1, 2, 20, 5, 0, 0), 2, 1, 23, 1, 24, 1, 1, 5, 25, 1, 2, 0);
        due.code(secrets(), Due.t(3, 21, 1, 3, 20, 1, 3, 21, 2, 1, 1, 20, 5, 0, 4, 1, 2, 20, 6, 0, 1, 1, 20, 7, 0, 0),
            2, 1, 23, 1, 1, 1, 19, 19, 2, 2, 23, 2, 1, 5, 25, 2, 1, 18, 24, 1, 6, 25, 1, 2, 1, 7, 25, 1, 1, 0);
        due.code(secrets(), Due.t(3, 20, 1, 3, 21, 2, 0, 0, 0), 1, 1, 19, 8, 2, 2, 23, 1, 0);
        due.code(secrets(), Due.t(3, 21, 1, 6, 2, 1, 1, 20, 3, 0, 0, 0),
            2, 1, 23, 1, 29, 0, 30, 0, 1, 2, 12, 19, 22, 1, 3, 25, 1, 1, 31, 0, 18, 6, 0);
    }

    private static void tables(Due due) {
        due.code(secrets(), Due.t(2, 1, 20, 1, 21, 1, 0), 1, 1, 2, 1, 22, 1, 0);
        due.code(secrets(), Due.t(2, 1, 21, 1, 20, 1, 0), 2, 1, 1, 1, 28, 0, 1, 0);
        due.code(secrets(), Due.t(3, 21, 1, 2, 2, 20, 1, 20, 3, 0, 0), 2, 1, 23, 1, 1, 1, 1, 3, 26, 1, 2, 0);
        due.code(secrets(), Due.t(3, 21, 1, 2, 2, 21, 1, 20, 3, 0, 0), 2, 1, 23, 1, 2, 1, 1, 3, 28, 1, 2, 0);
        due.code(secrets(), Due.t(1, 1, 35, 1, 20, 0, 0), 1, 0, 21, 1, 3, 1, 0);
        due.code(secrets(), Due.t(1, 1, 35, 0, 21, 1, 0), 2, 1, 27, 0, 3, 1, 0);
        due.code(secrets(), Due.t(1, 1, 35, 0, 35, 1, 20, 2, 0), 1, 2, 21, 1, 27, 0, 3, 1, 0);
        due.code(secrets(), Due.t(3, 21, 1, 1, 2, 35, 0, 21, 0, 0, 0), 2, 1, 23, 1, 2, 0, 21, 0, 25, 1, 2, 0);
        due.code(secrets(), Due.t(2, 2, 35, 1, 20, 0, 20, 1, 0), 1, 0, 21, 1, 1, 1, 28, 0, 2, 0);
    }

    private static void deepLoops(Due due) {
        SteadyCompiler x = new SteadyCompiler();
        Due.feed(x, Due.join(Due.times(12, 6, 1), Due.times(13, 0)));
        for (int k = 0; k < 12; k++) {
            due.same("count " + k, x.code(9 * k), 29);
            due.same("count " + k, x.code(9 * k + 1), k);
            due.same("the way out of " + k, x.code(9 * k + 8), 156 - 4 * k);
        }
        x = new SteadyCompiler();
        x.variable(1, true);
        Due.feed(x, Due.join(Due.times(11, 3, 21, 1), Due.times(12, 0)));
        for (int m = 1; m <= 11; m++) {
            due.same("mask " + m, x.code(4 * m - 2), 23);
            due.same("mask " + m, x.code(4 * m - 1), m);
        }
    }

    private static void longest(Due due) {
        SteadyCompiler x = new SteadyCompiler();
        due.same("check() of 400 tokens", Due.feed(x, Due.join(Due.times(133, 6, 0), Due.t(0))), SteadyCompiler.DEEP);
        x = new SteadyCompiler();
        due.same("check() of 400 tokens", Due.feed(x, Due.join(Due.times(133, 6, 0, 0), Due.t(0))), 133 * 13 + 1);
        due.same("the last jump", x.code(133 * 13 - 1), 132 * 13 + 2);
        due.same("run()", x.run(), 133 * 5 + 1);
        due.same("plain()", x.plain(), 133);
    }

    private static void noWords(Due due) {
        SteadyCompiler x = new SteadyCompiler();
        Due.feed(x, 7, 20, 5, 0);
        Due.feed(x, 0);
        int[] none = {1, 2, 3, -1, Integer.MIN_VALUE, Integer.MAX_VALUE, 2047, 2048};
        for (int i : none) {
            due.same("code(" + i + ")", x.code(i), 0);
        }
    }
}
