/** Promise 12: runs of CODE, and with 13 what every E is. */
public final class RunTest {
    private static final int MIN = Integer.MIN_VALUE;
    private static final int MAX = Integer.MAX_VALUE;

    public static void main(String[] args) {
        Due due = new Due("RunTest");
        operators(due);
        places(due);
        choices(due);
        fullPile(due);
        branches(due);
        masks(due);
        maskedTables(due);
        cuts(due);
        traps(due);
        due.end();
    }

    /** What E is: told by a run of CODE and by a plain one. */
    private static void value(Due due, int want, int... e) {
        SteadyCompiler x = new SteadyCompiler();
        x.set(5, 50);
        x.table(3, false, 5);
        for (int i = 0; i < 5; i++) {
            x.put(3, i, 30 + i);
        }
        String text = java.util.Arrays.toString(e);
        due.holds("check() of " + text, Due.feed(x, Due.join(Due.t(7), e, Due.t(0))) > 0);
        due.holds("run() of " + text, x.run() > 0);
        due.same("told by run() of " + text, x.told(0), want);
        due.same("plain() of " + text, x.plain(), 1);
        due.same("told by plain() of " + text, x.told(0), want);
    }

    private static void operator(Due due, int token, int[][] rows) {
        for (int[] row : rows) {
            value(due, row[2], token, 20, row[0], 20, row[1]);
        }
    }

    private static void operators(Due due) {
        value(due, MIN, 20, MIN);
        value(due, 50, 21, 5);
        operator(due, 22, new int[][] {{1, 2, 3}, {MAX, 1, MIN}, {MIN, -1, MAX}});
        operator(due, 23, new int[][] {{1, 2, -1}, {MIN, 1, MAX}, {0, MIN, MIN}});
        operator(due, 24, new int[][] {{-3, 7, -21}, {65536, 65537, 65536}, {MIN, -1, MIN}});
        operator(due, 25, new int[][] {{12, 10, 8}, {-1, MIN, MIN}});
        operator(due, 26, new int[][] {{12, 10, 14}, {MAX, MIN, -1}});
        operator(due, 27, new int[][] {{12, 10, 6}, {-1, MAX, MIN}});
        operator(due, 28, new int[][] {{1, 31, MIN}, {1, 32, 1}, {1, 33, 2}, {3, -1, MIN}, {-1, 4, -16}});
        operator(due, 29, new int[][] {{-1, 28, 15}, {-1, 31, 1}, {-1, 32, -1}, {MIN, -1, 1}, {16, 2, 4}});
        operator(due, 30, new int[][] {{-1, 0, 1}, {0, -1, 0}, {4, 4, 0}, {MIN, MAX, 1}, {MAX, MIN, 0}});
        operator(due, 31, new int[][] {{5, 5, 1}, {5, -5, 0}, {MIN, MIN, 1}, {0, MIN, 0}});
        operator(due, 33, new int[][] {{7, 2, 3}, {-7, 2, -3}, {7, -2, -3}, {-7, -2, 3}, {MIN, -1, MIN}, {0, 3, 0}});
        operator(due, 34, new int[][] {{7, 2, 1}, {-7, 2, -1}, {7, -2, 1}, {-7, -2, -1}, {MIN, -1, 0}, {3, MIN, 3}});
        value(due, 1, 32, 20, 0);
        value(due, 0, 32, 20, 7);
        value(due, 0, 32, 20, MIN);
    }

    private static void places(Due due) {
        value(due, 34, 35, 3, 20, 4);
        value(due, 30, 35, 3, 20, 5);
        value(due, 32, 35, 3, 20, 1000002);
        // 4294967295 and 2147483648, without sign, modulo 5.
        value(due, 30, 35, 3, 20, -1);
        value(due, 33, 35, 3, 20, MIN);
        SteadyCompiler x = new SteadyCompiler();
        x.table(0, false, 7);
        Due.feed(x, 2, 0, 20, -1, 20, 9, 2, 0, 20, 13, 20, 8, 0);
        due.same("run()", x.run(), 7);
        // 4294967295 is 3 modulo 7, 13 is 6.
        due.same("at(0, 3)", x.at(0, 3), 9);
        due.same("at(0, 6)", x.at(0, 6), 8);
    }

    private static void choices(Due due) {
        value(due, 2, 36, 20, 1, 20, 2, 20, 3);
        value(due, 3, 36, 20, 0, 20, 2, 20, 3);
        value(due, 2, 36, 20, MIN, 20, 2, 20, 3);
        value(due, 7, 36, 22, 20, 1, 20, -1, 20, 2, 36, 20, 5, 20, 7, 20, 8);
        // All three are worked out, so that a choice does not keep from a TRAP.
        SteadyCompiler x = new SteadyCompiler();
        Due.feed(x, 7, 36, 20, 1, 20, 2, 33, 20, 1, 20, 0, 0);
        due.same("run()", x.run(), SteadyCompiler.TRAP);
        due.same("plain()", x.plain(), SteadyCompiler.TRAP);
    }

    /** The most numbers that can wait on the pile: two on each level of E, and the PLACE of a 2. */
    private static void fullPile(Due due) {
        int[] deepest = Due.join(Due.times(10, 36, 20, 0, 20, 3), Due.t(20, 8));
        SteadyCompiler x = new SteadyCompiler();
        Due.feed(x, Due.join(Due.t(2, 1, 20, 2), deepest, Due.t(0)));
        due.same("run()", x.run(), 1 + 3 * 10 + 1 + 1 + 1);
        due.same("at(1, 2)", x.at(1, 2), 8);
    }

    private static void branches(Due due) {
        SteadyCompiler x = new SteadyCompiler();
        Due.feed(x, 3, 21, 0, 7, 20, 1, 4, 7, 20, 2, 0, 3, 21, 1, 7, 20, 3, 0, 0);
        due.same("run() with 0, 0", x.run(), 7);
        due.same("told(0)", x.told(0), 2);
        due.same("count(2)", x.count(2), 1);
        x.set(0, -1);
        x.set(1, 5);
        due.same("run() with -1, 5", x.run(), 10);
        due.same("told(0)", x.told(0), 1);
        due.same("told(1)", x.told(1), 3);
        x = new SteadyCompiler();
        x.set(0, 3);
        Due.feed(x, 5, 21, 0, 7, 21, 0, 1, 0, 23, 21, 0, 20, 1, 0, 0);
        due.same("run() of a loop", x.run(), 3 * 9 + 3);
        due.same("get(0)", x.get(0), 0);
        due.same("told(2)", x.told(2), 1);
        due.same("run() again begins as it is", x.run(), 3);
        due.same("count(2)", x.count(2), 0);
    }

    private static void masks(Due due) {
        for (int outer = 0; outer < 2; outer++) {
            for (int inner = 0; inner < 2; inner++) {
                SteadyCompiler x = new SteadyCompiler();
                for (int v = 1; v <= 6; v++) {
                    x.variable(v, true);
                }
                x.set(1, outer * 4);
                x.set(2, inner * MIN);
                Due.feed(x, 3, 21, 1, 3, 21, 2, 1, 3, 20, -7, 4, 1, 4, 20, -7, 0, 1, 1, 20, 0, 4,
                    3, 21, 2, 1, 5, 20, -7, 4, 1, 6, 20, -7, 0, 0, 0);
                due.same("run() is as long for all", x.run(), 20);
                due.same("mark() is the same for all", x.mark(), MARK_OF_MASKS);
                due.same("get(3)", x.get(3), outer == 1 && inner == 1 ? -7 : 0);
                due.same("get(4)", x.get(4), outer == 1 && inner == 0 ? -7 : 0);
                due.same("get(5)", x.get(5), outer == 0 && inner == 1 ? -7 : 0);
                due.same("get(6)", x.get(6), outer == 0 && inner == 0 ? -7 : 0);
                due.same("get(1)", x.get(1), 0);
            }
        }
    }

    // The instructions stand at these words one behind the other, whatever the secrets are.
    private static final long MARK_OF_MASKS = markOf(0, 2, 4, 6, 8, 10, 13, 15, 17, 20, 22, 25, 27, 29, 31, 33, 36, 38, 40, 43);

    private static long markOf(int... numbers) {
        long mark = 0;
        for (int n : numbers) {
            mark = 31 * mark + n;
        }
        return mark;
    }

    private static void maskedTables(Due due) {
        for (int secret = 0; secret < 2; secret++) {
            SteadyCompiler x = new SteadyCompiler();
            x.variable(1, true);
            x.variable(2, true);
            x.table(1, true, 3);
            x.set(1, secret);
            x.set(2, 5);
            x.put(1, 0, 40);
            x.put(1, 2, 42);
            Due.feed(x, 3, 21, 1, 2, 1, 20, 3, 20, 7, 2, 1, 21, 2, 20, 8, 0, 0);
            due.same("run()", x.run(), 9);
            due.same("at(1, 0)", x.at(1, 0), secret == 1 ? 7 : 40);
            due.same("at(1, 1)", x.at(1, 1), 0);
            due.same("at(1, 2)", x.at(1, 2), secret == 1 ? 8 : 42);
            due.trace(x, 0, 2, 4, 6, 8, 4112, 11, 13, 15, 4112, 4113, 4114, 18);
        }
    }

    private static void cuts(Due due) {
        // A round has 2 + 4 + 2 + 1 instructions; the last asking has 2, and the end is one.
        int[] loop = {5, 21, 0, 1, 0, 23, 21, 0, 20, 1, 1, 1, 20, 0, 0};
        SteadyCompiler x = new SteadyCompiler();
        x.set(0, 2221);
        Due.feed(x, Due.join(loop, Due.t(0)));
        due.same("run() of 2221 rounds", x.run(), 19992);
        x.set(0, 2221);
        Due.feed(x, Due.join(loop, Due.times(4, 1, 1, 20, 4), Due.t(0)));
        due.same("run() of 20000", x.run(), 20000);
        due.same("count(3)", x.count(3), 20000);
        due.same("get(1)", x.get(1), 4);
        x.set(0, 2221);
        Due.feed(x, Due.join(loop, Due.times(3, 1, 1, 20, 4), Due.t(1, 2, 32, 20, 0, 0)));
        due.same("run() of 20001", x.run(), SteadyCompiler.CUT);
        due.same("count(3)", x.count(3), 20000);
        due.same("get(2): the last but the end is done", x.get(2), 1);
        x = new SteadyCompiler();
        x.set(0, 2222);
        Due.feed(x, Due.join(loop, Due.t(0)));
        due.same("run() of 2222 rounds", x.run(), SteadyCompiler.CUT);
        due.same("get(0): all stays as it is there", x.get(0), 0);
        due.same("run() again", x.run(), 3);
        Due.feed(x, 5, 20, 1, 0, 0);
        due.same("run() for ever", x.run(), SteadyCompiler.CUT);
        due.same("count(3)", x.count(3), 20000);
    }

    private static void traps(Due due) {
        for (int token = 33; token <= 34; token++) {
            SteadyCompiler x = new SteadyCompiler();
            x.set(2, 6);
            Due.feed(x, 1, 0, 20, 5, 2, 0, 20, 1, 20, 3, 7, 20, 9, 1, 0, token, 20, 1, 21, 1, 7, 20, 8, 1, 2, 20, 7, 0);
            due.same("run()", x.run(), SteadyCompiler.TRAP);
            due.trace(x, 0, 2, 4, 6, 8, 4097, 10, 12, 13, 15, 17);
            due.same("get(0)", x.get(0), 5);
            due.same("get(2)", x.get(2), 6);
            due.same("at(0, 1)", x.at(0, 1), 3);
            due.same("count(2)", x.count(2), 1);
            due.same("told(0)", x.told(0), 9);
            x.set(1, 1);
            due.same("run() without a trap", x.run(), 16);
            due.same("get(2)", x.get(2), 7);
        }
        SteadyCompiler x = new SteadyCompiler();
        Due.feed(x, 2, 0, 20, 1, 33, 20, 1, 20, 0, 0);
        x.put(0, 1, 4);
        due.same("run() with a trap in 2", x.run(), SteadyCompiler.TRAP);
        due.same("at(0, 1)", x.at(0, 1), 4);
    }
}
