/** What the edge tests share: objects with a PROGRAM, and S* of a length that is known to the last step. */
final class Edge {
    static final int MIN = Integer.MIN_VALUE;
    static final int MAX = Integer.MAX_VALUE;

    private Edge() {
    }

    /** A new object with this PROGRAM. */
    static SteadyCompiler program(int... tokens) {
        SteadyCompiler x = new SteadyCompiler();
        Due.feed(x, tokens);
        return x;
    }

    /** A new object whose variables 1, 2 and TABLES 1, 2 are SECRET. */
    static SteadyCompiler secrets() {
        SteadyCompiler x = new SteadyCompiler();
        x.variable(1, true);
        x.variable(2, true);
        x.table(1, true, 4);
        x.table(2, true, 4);
        return x;
    }

    /** What this E is, as a RUN of CODE and a PLAIN run tell it. */
    static void value(Due due, int want, int... e) {
        SteadyCompiler x = program(Due.join(Due.t(7), e, Due.t(0)));
        String text = java.util.Arrays.toString(e);
        due.holds("run() of " + text + " comes to its end", x.run() > 0);
        due.same("told by run() of " + text, x.told(0), want);
        due.same("plain() of " + text, x.plain(), 1);
        due.same("told by plain() of " + text, x.told(0), want);
    }

    /** Rows of a first number, a second one, and what the token makes of them. */
    static void values(Due due, int token, int[]... rows) {
        for (int[] row : rows) {
            value(due, row[2], token, 20, row[0], 20, row[1]);
        }
    }

    /** S* that take just so many instructions of CODE (13 or more), and touch variables 0 and 9 alone. */
    static int[] lasting(int instructions) {
        // The first S and the last asking take 2 each, and a round 7; one alone cannot be filled up with S.
        int rounds = (instructions - 4) / 7;
        int rest = (instructions - 4) % 7;
        if (rest == 1) {
            rounds--;
            rest += 7;
        }
        return Due.join(countdown(rounds), straight(rest));
    }

    /** S* without rounds that take just so many instructions of CODE (any number but 1), and touch variable 9 alone. */
    static int[] straight(int instructions) {
        if (instructions % 2 == 0) {
            return Due.times(instructions / 2, 1, 9, 20, 0);
        }
        return Due.join(Due.t(1, 9, 32, 20, 1), straight(instructions - 3));
    }

    /** S* that take just so many TURNS (2 or more), and touch variables 0 and 9 alone. */
    static int[] turning(int turns) {
        return Due.join(countdown((turns - 2) / 2), turns % 2 == 0 ? Due.t() : Due.t(1, 9, 20, 0));
    }

    private static int[] countdown(int rounds) {
        return Due.t(1, 0, 20, rounds, 5, 21, 0, 1, 0, 23, 21, 0, 20, 1, 0);
    }

    /** Whether this PROGRAM has the CODE, and does in both kinds of run, what the Model says. */
    static void asModelled(Due due, int... tokens) {
        SteadyCompiler x = new SteadyCompiler();
        Model y = new Model();
        for (int i = 0; i < 4; i++) {
            x.put(0, i, (i + 1) % 4);
            y.tables[0][i] = (i + 1) % 4;
        }
        for (int n : tokens) {
            y.token(n);
        }
        String text = java.util.Arrays.toString(tokens) + ": ";
        due.same(text + "check()", Due.feed(x, tokens), y.check());
        for (int i = 0; i < y.code.size(); i++) {
            due.same(text + "code(" + i + ")", x.code(i), y.code.get(i));
        }
        due.same(text + "run()", x.run(), y.run());
        sameNumbers(due, text, x, y);
        due.same(text + "mark()", x.mark(), y.mark());
        due.same(text + "plain()", x.plain(), y.plain());
        sameNumbers(due, text, x, y);
    }

    private static void sameNumbers(Due due, String text, SteadyCompiler x, Model y) {
        due.same(text + "count(2)", x.count(2), y.told.size());
        due.same(text + "told(0)", x.told(0), y.told.isEmpty() ? 0 : y.told.get(0));
        for (int v = 0; v <= 9; v++) {
            due.same(text + "get(" + v + ")", x.get(v), y.variables[v]);
        }
        for (int i = 0; i < 4; i++) {
            due.same(text + "at(0, " + i + ")", x.at(0, i), y.tables[0][i]);
        }
    }
}
