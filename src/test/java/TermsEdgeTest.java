/** The boundary cases that "Terms" names, each sentence in a test of its own. */
public final class TermsEdgeTest {
    private static final int MIN = Edge.MIN;
    private static final int MAX = Edge.MAX;
    private static final int BAD = SteadyCompiler.BAD;
    private static final int WRONG = SteadyCompiler.WRONG;
    private static final int NUMBER = SteadyCompiler.NUMBER;
    private static final int TRAP = SteadyCompiler.TRAP;

    public static void main(String[] args) {
        Due due = new Due("TermsEdgeTest");
        sumsRunOver(due);
        numbersOfVariablesAndTables(due);
        tableSizes(due);
        atFirst(due);
        textRoom(due);
        programsEnd(due);
        branches(due);
        asLongAs(due);
        times(due);
        told(due);
        thatNumber(due);
        bits(due);
        moves(due);
        comparisons(due);
        isZero(due);
        quotients(due);
        choices(due);
        placesRead(due);
        placesWritten(due);
        order(due);
        due.end();
    }

    private static void sumsRunOver(Due due) {
        due.sentence("NUMBERS have 32 bits; sums, differences, products run over");
        Edge.values(due, 22, Due.t(MAX - 1, 1, MAX), Due.t(MAX, 0, MAX), Due.t(MAX, 1, MIN), Due.t(MAX, MAX, -2));
        Edge.values(due, 22, Due.t(MIN + 1, -1, MIN), Due.t(MIN, 0, MIN), Due.t(MIN, -1, MAX), Due.t(MIN, MIN, 0));
        Edge.values(due, 23, Due.t(MIN + 1, 1, MIN), Due.t(MIN, 0, MIN), Due.t(MIN, 1, MAX), Due.t(0, MIN, MIN));
        Edge.values(due, 23, Due.t(MAX - 1, -1, MAX), Due.t(MAX, -1, MIN), Due.t(-1, MIN, MAX), Due.t(MIN, MAX, 1));
        Edge.values(due, 24, Due.t(46340, 46340, 2147395600), Due.t(46341, 46341, -2147479015), Due.t(MIN, -1, MIN));
        Edge.values(due, 24, Due.t(65536, 32767, 2147418112), Due.t(65536, 32768, MIN), Due.t(65536, 65536, 0));
        Edge.values(due, 24, Due.t(65536, -32768, MIN), Due.t(65536, -32769, 2147418112), Due.t(MAX, MAX, 1));
        SteadyCompiler x = new SteadyCompiler();
        int[] numbers = {MIN, MIN + 1, -1, 0, 1, MAX - 1, MAX};
        for (int n : numbers) {
            x.set(3, n);
            x.put(3, 3, n);
            due.same("get(3) behind set(3, " + n + ")", x.get(3), n);
            due.same("at(3, 3) behind put(3, 3, " + n + ")", x.at(3, 3), n);
        }
    }

    private static void numbersOfVariablesAndTables(Due due) {
        due.sentence("VARIABLES 0 .. 9 and TABLES 0 .. 3");
        for (int v = 0; v <= 9; v++) {
            due.same("1 " + v, Due.feed(new SteadyCompiler(), 1, v, 20, 0, 0), 5);
            due.same("7 21 " + v, Due.feed(new SteadyCompiler(), 7, 21, v, 0), 4);
            due.same("set(" + v + ")", new SteadyCompiler().set(v, 1), 0);
        }
        int[] noVariables = {-1, 10, 11, MIN, MAX};
        for (int v : noVariables) {
            due.fault(NUMBER, 1, 1, v, 20, 0, 0);
            due.fault(NUMBER, 2, 7, 21, v, 0);
            due.same("set(" + v + ")", new SteadyCompiler().set(v, 1), BAD);
        }
        for (int t = 0; t <= 3; t++) {
            due.same("2 " + t, Due.feed(new SteadyCompiler(), 2, t, 20, 0, 20, 0, 0), 7);
            due.same("7 35 " + t, Due.feed(new SteadyCompiler(), 7, 35, t, 20, 0, 0), 6);
            due.same("put(" + t + ")", new SteadyCompiler().put(t, 0, 1), 0);
        }
        int[] noTables = {-1, 4, 5, 9, MIN, MAX};
        for (int t : noTables) {
            due.fault(NUMBER, 1, 2, t, 20, 0, 20, 0, 0);
            due.fault(NUMBER, 2, 7, 35, t, 20, 0, 0);
            due.same("put(" + t + ")", new SteadyCompiler().put(t, 0, 1), BAD);
        }
        oneDoesNotTouchAnother(due);
    }

    private static void oneDoesNotTouchAnother(Due due) {
        SteadyCompiler x = new SteadyCompiler();
        for (int v = 0; v <= 9; v++) {
            x.set(v, 100 + v);
        }
        for (int t = 0; t <= 3; t++) {
            x.table(t, false, 16);
            x.put(t, 0, 200 + t);
            x.put(t, 15, 300 + t);
        }
        for (int v = 0; v <= 9; v++) {
            due.same("get(" + v + ")", x.get(v), 100 + v);
        }
        for (int t = 0; t <= 3; t++) {
            due.same("at(" + t + ", 0)", x.at(t, 0), 200 + t);
            due.same("at(" + t + ", 1)", x.at(t, 1), 0);
            due.same("at(" + t + ", 15)", x.at(t, 15), 300 + t);
        }
    }

    private static void tableSizes(Due due) {
        due.sentence("a TABLE has 1 .. 16 numbers");
        int[] none = {0, -1, 17, 18, MIN, MAX};
        for (int n : none) {
            SteadyCompiler x = new SteadyCompiler();
            due.same("table(0, false, " + n + ")", x.table(0, false, n), BAD);
            due.same("it still has 4: at(0, 3)", x.at(0, 3), 0);
            due.same("it still has 4: at(0, 4)", x.at(0, 4), BAD);
        }
        for (int n = 1; n <= 16; n++) {
            SteadyCompiler x = new SteadyCompiler();
            due.same("table(0, false, " + n + ")", x.table(0, false, n), 4);
            due.same("put(0, " + (n - 1) + ", 5) of " + n, x.put(0, n - 1, 5), 0);
            due.same("at(0, " + (n - 1) + ") of " + n, x.at(0, n - 1), 5);
            due.same("put(0, " + n + ", 5) of " + n, x.put(0, n, 5), BAD);
            due.same("at(0, " + n + ") of " + n, x.at(0, n), BAD);
            due.same("table() again", x.table(0, false, 1), n);
        }
    }

    private static void atFirst(Due due) {
        due.sentence("At first all are PUBLIC, all numbers 0, TABLES have 4");
        for (int v = 0; v <= 9; v++) {
            SteadyCompiler x = new SteadyCompiler();
            due.same("get(" + v + ")", x.get(v), 0);
            due.same("check() of what tells variable " + v, Due.feed(x, 7, 21, v, 0), 4);
            due.same("variable(" + v + ", true)", x.variable(v, true), 0);
            due.same("check() of what tells it then", Due.feed(x, 7, 21, v, 0), SteadyCompiler.LEAK);
        }
        for (int t = 0; t <= 3; t++) {
            SteadyCompiler x = new SteadyCompiler();
            for (int i = 0; i <= 3; i++) {
                due.same("at(" + t + ", " + i + ")", x.at(t, i), 0);
            }
            due.same("at(" + t + ", 4)", x.at(t, 4), BAD);
            due.same("check() of what tells of TABLE " + t, Due.feed(x, 7, 35, t, 20, 0, 0), 6);
            due.same("table(" + t + ", true, 5)", x.table(t, true, 5), 4);
            due.same("check() of what tells of it then", Due.feed(x, 7, 35, t, 20, 0, 0), SteadyCompiler.LEAK);
        }
    }

    private static void textRoom(Due due) {
        due.sentence("THE TEXT has up to 400 TOKENS (numbers)");
        SteadyCompiler x = new SteadyCompiler();
        due.same("check() of 399 tokens", Due.feed(x, Due.join(Due.times(131, 6, 0, 0), Due.t(1, 1, 32, 20, 3, 0))), 131 * 13 + 6);
        due.same("run()", x.run(), 131 * 5 + 4);
        int[] most = Due.times(132, 6, 0, 0);
        x = new SteadyCompiler();
        due.same("check() of 400 tokens", Due.feed(x, Due.join(most, Due.t(7, 20, 3, 0))), 132 * 13 + 4);
        due.same("code() of the last S", x.code(132 * 13 + 1), 3);
        due.same("run()", x.run(), 132 * 5 + 3);
        due.same("told(0)", x.told(0), 3);
        due.same("plain()", x.plain(), 133);
        // The 401st is lost: THE TEXT has no end here, and nothing behind its end there.
        due.fault(WRONG, 400, Due.join(most, Due.t(1, 1, 20, 3, 0)));
        due.same("check() of 400 and one more", Due.feed(new SteadyCompiler(), Due.join(most, Due.t(7, 20, 3, 0, 9))), 132 * 13 + 4);
    }

    private static void programsEnd(Due due) {
        due.sentence("a PROGRAM is S* and then 0, and nothing behind it");
        due.fault(WRONG, 0);
        due.same("0", Due.feed(new SteadyCompiler(), 0), 1);
        due.fault(WRONG, 1, 0, 0);
        due.fault(WRONG, 1, 0, 7, 20, 1, 0);
        due.fault(WRONG, 3, 7, 20, 1);
        due.same("7 20 1 0", Due.feed(new SteadyCompiler(), 7, 20, 1, 0), 4);
        due.fault(WRONG, 4, 7, 20, 1, 0, 0);
        due.fault(WRONG, 4, 7, 20, 1, 0, MIN);
        due.same("7 20 1 7 20 1 0", Due.feed(new SteadyCompiler(), 7, 20, 1, 7, 20, 1, 0), 7);
        due.fault(WRONG, 3, 6, 1, 0);
        due.same("6 1 0 0", Due.feed(new SteadyCompiler(), 6, 1, 0, 0), 14);
        due.fault(WRONG, 4, 6, 1, 0, 0, 0);
    }

    private static void branches(Due due) {
        due.sentence("3 E S* 0, or 3 E S* 4 S* 0: if E is not 0 the first S*, else the second (if there is one)");
        int[] numbers = {0, 1, -1, 2, MIN, MAX};
        for (int n : numbers) {
            branch(due, n != 0 ? 1 : 0, 5, 3, 20, n, 7, 20, 5, 0, 0);
            branch(due, 1, n != 0 ? 5 : 6, 3, 20, n, 7, 20, 5, 4, 7, 20, 6, 0, 0);
            branch(due, n != 0 ? 0 : 1, 6, 3, 20, n, 4, 7, 20, 6, 0, 0);
            branch(due, n != 0 ? 1 : 0, 5, 3, 20, n, 7, 20, 5, 4, 0, 0);
            branch(due, 0, 0, 3, 20, n, 0, 0);
            branch(due, 0, 0, 3, 20, n, 4, 0, 0);
        }
        due.fault(WRONG, 4, 3, 20, 1, 4, 4, 0, 0);
        due.fault(WRONG, 7, 3, 20, 1, 4, 7, 20, 1, 4, 0, 0);
        due.fault(WRONG, 0, 4, 0);
        due.fault(WRONG, 5, 3, 20, 1, 0, 0, 4, 0, 0);
    }

    /** Whether a RUN of CODE and a PLAIN run tell so many numbers, and this one first. */
    private static void branch(Due due, int many, int first, int... tokens) {
        SteadyCompiler x = Edge.program(tokens);
        String text = java.util.Arrays.toString(tokens);
        for (int i = 0; i < 2; i++) {
            due.holds("a run of " + text, (i == 0 ? x.run() : x.plain()) > 0);
            due.same("count(2) of " + text, x.count(2), many);
            due.same("told(0) of " + text, x.told(0), many == 0 ? 0 : first);
        }
    }

    private static void asLongAs(Due due) {
        due.sentence("5 E S* 0: as long as E is not 0");
        for (int rounds = 0; rounds <= 3; rounds++) {
            for (int sign = -1; sign <= 1; sign += 2) {
                SteadyCompiler x = Edge.program(5, 21, 0, 7, 21, 0, 1, 0, 23, 21, 0, 20, sign, 0, 0);
                for (int i = 0; i < 2; i++) {
                    x.set(0, sign * rounds);
                    due.same("a run", i == 0 ? x.run() : x.plain(), i == 0 ? 9 * rounds + 3 : 1 + 3 * rounds);
                    due.same("count(2) of " + sign * rounds, x.count(2), rounds);
                    due.same("told(0) of " + sign * rounds, x.told(0), sign * rounds);
                    due.same("get(0)", x.get(0), 0);
                }
            }
        }
        SteadyCompiler x = Edge.program(5, 21, 0, 1, 0, 20, 0, 7, 20, 1, 0, 0);
        x.set(0, MIN);
        due.same("plain() with the least number", x.plain(), 4);
        x.set(0, MIN);
        due.same("run() with the least number", x.run(), 10);
        due.same("count(2)", x.count(2), 1);
    }

    private static void times(Due due) {
        due.sentence("6 n S* 0: n times (0 .. 20)");
        for (int n = 0; n <= 20; n++) {
            SteadyCompiler x = Edge.program(6, n, 7, 20, 1, 0, 0);
            due.same("run() of " + n, x.run(), 6 + 8 * n);
            due.same("count(2) of " + n, x.count(2), n);
            due.same("plain() of " + n, x.plain(), 1 + 2 * n);
            due.same("count(2) of " + n, x.count(2), n);
        }
        int[] none = {-1, -2, 21, 22, MIN, MAX};
        for (int n : none) {
            due.fault(NUMBER, 1, 6, n, 7, 20, 1, 0, 0);
        }
    }

    private static void told(Due due) {
        due.sentence("7 E: E is told");
        int[] numbers = {MIN, -1, 0, 1, MAX};
        for (int n : numbers) {
            SteadyCompiler x = Edge.program(7, 20, n, 0);
            x.run();
            due.same("count(2)", x.count(2), 1);
            due.same("told(0) of " + n, x.told(0), n);
            due.same("told(1) of " + n, x.told(1), 0);
        }
        due.fault(WRONG, 1, 7);
        due.fault(WRONG, 1, 7, 0);
    }

    private static void thatNumber(Due due) {
        due.sentence("20 n: that number");
        int[] numbers = {MIN, -1, 0, 4, 7, 20, 21, MAX};
        for (int n : numbers) {
            Edge.value(due, n, 20, n);
        }
        due.fault(WRONG, 2, 7, 20);
        due.fault(WRONG, 3, 7, 20, 0);
    }

    private static void bits(Due due) {
        due.sentence("and, or, exclusive or, bit by bit");
        for (int i = 0; i < 32; i++) {
            int bit = 1 << i;
            Edge.values(due, 25, Due.t(bit, bit, bit), Due.t(bit, ~bit, 0), Due.t(-1, bit, bit), Due.t(0, bit, 0));
            Edge.values(due, 26, Due.t(bit, bit, bit), Due.t(bit, ~bit, -1), Due.t(-1, bit, -1), Due.t(0, bit, bit));
            Edge.values(due, 27, Due.t(bit, bit, 0), Due.t(bit, ~bit, -1), Due.t(-1, bit, ~bit), Due.t(0, bit, bit));
        }
        Edge.values(due, 25, Due.t(12, 10, 8), Due.t(MIN, MAX, 0), Due.t(MIN, -1, MIN));
        Edge.values(due, 26, Due.t(12, 10, 14), Due.t(MIN, MAX, -1), Due.t(MIN, 0, MIN));
        Edge.values(due, 27, Due.t(12, 10, 6), Due.t(MIN, MAX, -1), Due.t(MIN, MIN, 0));
    }

    private static void moves(Due due) {
        due.sentence("the first moved to the left, to the right (0s come), by the lowest five bits of the second");
        Edge.values(due, 28, Due.t(-1, 0, -1), Due.t(-1, 1, -2), Due.t(-1, 30, -1073741824), Due.t(-1, 31, MIN));
        Edge.values(due, 28, Due.t(3, 31, MIN), Due.t(3, 32, 3), Due.t(3, 33, 6), Due.t(3, 63, MIN), Due.t(3, 64, 3));
        Edge.values(due, 28, Due.t(3, -1, MIN), Due.t(3, -31, 6), Due.t(3, -32, 3), Due.t(3, MIN, 3), Due.t(3, MAX, MIN));
        Edge.values(due, 29, Due.t(-1, 0, -1), Due.t(-1, 1, MAX), Due.t(-1, 30, 3), Due.t(-1, 31, 1));
        Edge.values(due, 29, Due.t(MIN, 31, 1), Due.t(MIN, 32, MIN), Due.t(MIN, 33, 1073741824), Due.t(-1, 64, -1));
        Edge.values(due, 29, Due.t(MIN, -1, 1), Due.t(MIN, -31, 1073741824), Due.t(MIN, -32, MIN), Due.t(6, MAX, 0));
        Edge.values(due, 29, Due.t(MAX, 30, 1), Due.t(MAX, 31, 0), Due.t(MAX, MIN, MAX));
    }

    private static void comparisons(Due due) {
        due.sentence("1 if the first is less than the second, if both are the same, else 0");
        int[] numbers = {MIN, -1, 0, 1, MAX - 1};
        for (int n : numbers) {
            Edge.values(due, 30, Due.t(n, n, 0), Due.t(n, n + 1, 1), Due.t(n + 1, n, 0));
            Edge.values(due, 31, Due.t(n, n, 1), Due.t(n, n + 1, 0), Due.t(n + 1, n, 0));
        }
        Edge.values(due, 30, Due.t(MIN, MAX, 1), Due.t(MAX, MIN, 0));
        Edge.values(due, 31, Due.t(MIN, MAX, 0), Due.t(MIN, 0, 0), Due.t(MAX, MAX, 1));
    }

    private static void isZero(Due due) {
        due.sentence("32 E: 1 if it is 0, else 0");
        int[] numbers = {MIN, -2, -1, 0, 1, 2, MAX};
        for (int n : numbers) {
            Edge.value(due, n == 0 ? 1 : 0, 32, 20, n);
        }
    }

    private static void quotients(Due due) {
        due.sentence("quotient towards 0, and rest (of -2147483648 by -1 itself, and 0)");
        Edge.values(due, 33, Due.t(MIN, -1, MIN), Due.t(MIN + 1, -1, MAX), Due.t(MIN, 1, MIN), Due.t(MIN, -2, 1073741824));
        Edge.values(due, 34, Due.t(MIN, -1, 0), Due.t(MIN + 1, -1, 0), Due.t(MIN, 1, 0), Due.t(MIN, 3, -2));
        Edge.values(due, 33, Due.t(5, 3, 1), Due.t(-5, 3, -1), Due.t(5, -3, -1), Due.t(-5, -3, 1));
        Edge.values(due, 34, Due.t(5, 3, 2), Due.t(-5, 3, -2), Due.t(5, -3, 2), Due.t(-5, -3, -2));
        Edge.values(due, 33, Due.t(2, 3, 0), Due.t(-2, 3, 0), Due.t(3, 3, 1), Due.t(-3, 3, -1), Due.t(-4, 3, -1));
        Edge.values(due, 34, Due.t(2, 3, 2), Due.t(-2, 3, -2), Due.t(3, 3, 0), Due.t(-3, 3, 0), Due.t(-4, 3, -1));
        Edge.values(due, 33, Due.t(MIN, MIN, 1), Due.t(MAX, MIN, 0), Due.t(MIN, MAX, -1), Due.t(0, -1, 0));
        Edge.values(due, 34, Due.t(MIN, MIN, 0), Due.t(MAX, MIN, MAX), Due.t(MIN, MAX, -1), Due.t(0, -1, 0));
    }

    private static void choices(Due due) {
        due.sentence("36 E E E: the second if the first is not 0, else the third; all three are worked out");
        int[] numbers = {MIN, -1, 0, 1, MAX};
        for (int n : numbers) {
            Edge.value(due, n != 0 ? 5 : 6, 36, 20, n, 20, 5, 20, 6);
            traps(due, 7, 36, 33, 20, n, 20, 0, 20, 5, 20, 6, 0);
            traps(due, 7, 36, 20, n, 33, 20, 1, 20, 0, 20, 6, 0);
            traps(due, 7, 36, 20, n, 20, 5, 33, 20, 1, 20, 0, 0);
        }
    }

    private static void traps(Due due, int... tokens) {
        SteadyCompiler x = Edge.program(tokens);
        String text = java.util.Arrays.toString(tokens);
        due.same("run() of " + text, x.run(), TRAP);
        due.same("plain() of " + text, x.plain(), TRAP);
    }

    /** Numbers about a TABLE's size, and about where the sign changes. */
    private static int[] around(int size) {
        return Due.t(0, 1, size - 1, size, size + 1, 2 * size - 1, 2 * size, -1, -2, -size, MAX, MIN, MIN + 1);
    }

    private static int placeOf(int n, int size) {
        return (int) ((n < 0 ? n + 4294967296L : n) % size);
    }

    /** An object whose variables 1, 2 and TABLE 1 are SECRET; TABLES 1 and 0 have so many numbers, 100, 101, .. */
    private static SteadyCompiler withTables(int size, int n) {
        SteadyCompiler x = new SteadyCompiler();
        x.variable(1, true);
        x.variable(2, true);
        x.table(0, false, size);
        x.table(1, true, size);
        for (int i = 0; i < size; i++) {
            x.put(0, i, 100 + i);
            x.put(1, i, 100 + i);
        }
        x.set(0, n);
        x.set(1, n);
        return x;
    }

    private static void placesRead(Due due) {
        due.sentence("PLACE in a TABLE: E, as a number without sign, modulo how many the TABLE has", "what 35 reads");
        for (int size = 1; size <= 16; size++) {
            for (int n : around(size)) {
                readOpenly(due, size, n);
                readAll(due, size, n);
            }
        }
    }

    private static void readOpenly(Due due, int size, int n) {
        String name = "place " + n + " of " + size + ", ";
        SteadyCompiler x = withTables(size, n);
        Due.feed(x, 7, 35, 0, 21, 0, 0);
        due.same(name + "run()", x.run(), 4);
        due.same(name + "told by run()", x.told(0), 100 + placeOf(n, size));
        due.same(name + "seen", x.trace(2), 4096 + placeOf(n, size));
        due.same(name + "plain()", x.plain(), 1);
        due.same(name + "told by plain()", x.told(0), 100 + placeOf(n, size));
    }

    private static void readAll(Due due, int size, int n) {
        String name = "secret place " + n + " of " + size + ", ";
        SteadyCompiler x = withTables(size, n);
        Due.feed(x, 1, 2, 35, 0, 21, 1, 0);
        due.same(name + "run()", x.run(), 4);
        due.same(name + "read by run()", x.get(2), 100 + placeOf(n, size));
        x.set(2, 0);
        due.same(name + "plain()", x.plain(), 1);
        due.same(name + "read by plain()", x.get(2), 100 + placeOf(n, size));
    }

    private static void placesWritten(Due due) {
        due.sentence("PLACE in a TABLE: E, as a number without sign, modulo how many the TABLE has", "what 2 writes");
        for (int size = 1; size <= 16; size++) {
            for (int n : around(size)) {
                written(due, size, n, 0, 2, 0, 21, 0, 20, 7, 0);
                written(due, size, n, 1, 2, 1, 21, 1, 20, 7, 0);
                written(due, size, n, 1, 3, 32, 35, 1, 20, 99, 4, 2, 1, 21, 0, 20, 7, 0, 0);
                written(due, size, n, 1, 3, 32, 35, 1, 20, 99, 4, 2, 1, 21, 1, 20, 7, 0, 0);
            }
        }
    }

    /** Whether a RUN of CODE and a PLAIN run write 7 at the PLACE that n tells, and nowhere else. */
    private static void written(Due due, int size, int n, int t, int... tokens) {
        for (int i = 0; i < 2; i++) {
            SteadyCompiler x = withTables(size, n);
            Due.feed(x, tokens);
            due.holds("a run of " + java.util.Arrays.toString(tokens), (i == 0 ? x.run() : x.plain()) > 0);
            for (int p = 0; p < size; p++) {
                due.same("at(" + t + ", " + p + ") of " + size + " behind place " + n, x.at(t, p), p == placeOf(n, size) ? 7 : 100 + p);
                due.same("at(" + (1 - t) + ", " + p + ")", x.at(1 - t, p), 100 + p);
            }
        }
    }

    private static void order(Due due) {
        due.sentence("All E of a token are worked out in their order");
        SteadyCompiler x = Edge.program(7, 36, 35, 0, 20, 0, 35, 1, 20, 1, 35, 2, 20, 2, 2, 3, 35, 0, 20, 3, 35, 1, 20, 0, 0);
        due.same("run()", x.run(), 14);
        due.trace(x, 0, 2, 4096, 4, 6, 4113, 8, 10, 4130, 12, 13, 14, 16, 4099, 18, 20, 4112, 22, 4144, 24);
    }
}
