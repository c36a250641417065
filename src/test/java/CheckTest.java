/** Promises 5 and 6: the faults that check() finds, and their places. */
public final class CheckTest {
    private static final int WRONG = SteadyCompiler.WRONG;
    private static final int NUMBER = SteadyCompiler.NUMBER;
    private static final int DEEP = SteadyCompiler.DEEP;
    private static final int LEAK = SteadyCompiler.LEAK;

    public static void main(String[] args) {
        Due due = new Due("CheckTest");
        wrongTokens(due);
        missingTokens(due);
        wrongNumbers(due);
        deepTokens(due);
        orderOfFaults(due);
        leaks(due);
        hiddenLeaks(due);
        noLeaks(due);
        whatStays(due);
        due.end();
    }

    private static void wrongTokens(Due due) {
        int[] noStatements = {4, 8, 19, 20, 21, 36, -1, Integer.MAX_VALUE, Integer.MIN_VALUE};
        for (int n : noStatements) {
            due.fault(WRONG, 0, n, 0);
            due.fault(WRONG, 3, 7, 20, 1, n, 0);
            due.fault(WRONG, 2, 6, 2, n, 0, 0);
        }
        int[] noExpressions = {0, 1, 4, 7, 19, 37, -20, Integer.MAX_VALUE, Integer.MIN_VALUE};
        for (int n : noExpressions) {
            due.fault(WRONG, 1, 7, n, 0);
            due.fault(WRONG, 4, 7, 22, 20, 1, n, 0);
            due.fault(WRONG, 3, 7, 35, 0, n, 0);
        }
        due.fault(WRONG, 1, 0, 0);
        due.fault(WRONG, 4, 7, 20, 1, 0, 7);
        due.fault(WRONG, 4, 3, 20, 1, 4, 4, 0, 0);
        due.fault(WRONG, 3, 5, 20, 1, 4, 0, 0);
        due.fault(WRONG, 2, 6, 1, 4, 0, 0);
        due.fault(WRONG, 5, 3, 20, 1, 6, 1, 4, 0, 0, 0);
        due.fault(WRONG, 5, 3, 20, 1, 0, 0, -9, 1);
    }

    private static void missingTokens(Due due) {
        int[] whole = {1, 0, 36, 20, 1, 21, 2, 35, 3, 20, 0, 2, 3, 20, 1, 20, 2, 3, 21, 1, 6, 20, 0, 4, 5, 20, 0, 0, 0, 0};
        due.same("check() of the whole", Due.feed(new SteadyCompiler(), whole), 43);
        for (int n = 0; n < whole.length; n++) {
            due.fault(WRONG, n, java.util.Arrays.copyOf(whole, n));
        }
    }

    private static void wrongNumbers(Due due) {
        int[] none = {-1, Integer.MIN_VALUE, Integer.MAX_VALUE, 21};
        for (int n : none) {
            due.fault(NUMBER, 1, 1, n, 20, 0, 0);
            due.fault(NUMBER, 2, 7, 21, n, 0);
            due.fault(NUMBER, 1, 2, n, 20, 0, 20, 0, 0);
            due.fault(NUMBER, 2, 7, 35, n, 20, 0, 0);
            due.fault(NUMBER, 1, 6, n, 0, 0);
        }
        due.fault(NUMBER, 1, 1, 10, 20, 0, 0);
        due.fault(NUMBER, 2, 7, 21, 10, 0);
        due.fault(NUMBER, 1, 2, 4, 20, 0, 20, 0, 0);
        due.fault(NUMBER, 2, 7, 35, 4, 20, 0, 0);
        due.same("1 9", Due.feed(new SteadyCompiler(), 1, 9, 21, 9, 0), 5);
        due.same("2 3", Due.feed(new SteadyCompiler(), 2, 3, 20, 0, 35, 3, 20, 0, 0), 9);
        due.same("6 20", Due.feed(new SteadyCompiler(), 6, 20, 0, 0), 14);
        due.same("6 0", Due.feed(new SteadyCompiler(), 6, 0, 0, 0), 14);
    }

    private static void deepTokens(Due due) {
        due.same("12 of 6", Due.feed(new SteadyCompiler(), Due.join(Due.times(12, 6, 1), Due.times(13, 0))), 157);
        due.fault(DEEP, 24, Due.join(Due.times(13, 6, 1), Due.times(14, 0)));
        due.fault(DEEP, 24, Due.join(Due.times(12, 6, 1), Due.t(1, 0, 20, 1), Due.times(13, 0)));
        due.same("7 within 10 of 6", Due.feed(new SteadyCompiler(), Due.join(Due.times(10, 6, 1), Due.t(7, 20, 1), Due.times(11, 0))), 134);
        due.fault(DEEP, 23, Due.join(Due.times(11, 6, 1), Due.t(7, 20, 1), Due.times(12, 0)));
        due.same("7 and 10 of 32", Due.feed(new SteadyCompiler(), Due.join(Due.t(7), Due.times(10, 32), Due.t(20, 1, 0))), 14);
        due.fault(DEEP, 12, Due.join(Due.t(7), Due.times(11, 32), Due.t(20, 1, 0)));
        due.fault(DEEP, 33, Due.join(Due.t(1, 0), Due.times(11, 22, 20, 1), Due.t(20, 1, 0)));
        due.same("an else that is 11 deep", Due.feed(new SteadyCompiler(),
            Due.join(Due.times(11, 3, 20, 1, 4), Due.times(12, 0))), 67);
        due.fault(DEEP, 45, Due.join(Due.times(12, 3, 20, 1, 4), Due.times(13, 0)));
    }

    private static void orderOfFaults(Due due) {
        due.fault(WRONG, 24, Due.join(Due.times(12, 6, 1), Due.t(99)));
        due.fault(WRONG, 24, Due.times(12, 6, 1));
        due.fault(WRONG, 24, Due.join(Due.times(12, 6, 1), Due.t(4)));
        due.fault(WRONG, 23, Due.join(Due.times(11, 6, 1), Due.t(7, 0)));
        due.fault(WRONG, 23, Due.join(Due.times(11, 6, 1), Due.t(7)));
        due.fault(DEEP, 24, Due.join(Due.times(12, 6, 1), Due.t(1, 99)));
        due.fault(NUMBER, 1, 1, 10, 99);
        due.fault(WRONG, 2, 1, 9, 99, 1, 10);
        due.fault(NUMBER, 23, Due.join(Due.times(11, 6, 1), Due.t(6, 21, 7)));
        SteadyCompiler x = secrets();
        due.fault(x, WRONG, 4, 7, 21, 1, 0, 0);
        due.fault(x, NUMBER, 5, 7, 21, 1, 7, 21, 10, 0);
    }

    /** An object whose variables 1, 2 and TABLES 1, 2 are SECRET. */
    private static SteadyCompiler secrets() {
        SteadyCompiler x = new SteadyCompiler();
        x.variable(1, true);
        x.variable(2, true);
        x.table(1, true, 4);
        x.table(2, true, 5);
        return x;
    }

    private static void leaks(Due due) {
        SteadyCompiler x = secrets();
        due.fault(x, LEAK, 0, 1, 0, 21, 1, 0);
        due.fault(x, LEAK, 0, 1, 0, 22, 20, 1, 35, 0, 21, 2, 0);
        due.fault(x, LEAK, 0, 1, 0, 35, 1, 20, 0, 0);
        due.fault(x, LEAK, 0, 2, 0, 21, 1, 20, 0, 0);
        due.fault(x, LEAK, 0, 2, 0, 20, 0, 21, 1, 0);
        due.fault(x, LEAK, 0, 5, 21, 1, 0, 0);
        due.fault(x, LEAK, 0, 7, 36, 20, 1, 20, 1, 21, 1, 0);
        x = secrets();
        due.fault(x, LEAK, 2, 1, 1, 33, 21, 1, 20, 1, 0);
        due.fault(x, LEAK, 2, 1, 1, 34, 20, 1, 35, 1, 20, 0, 0);
        due.fault(x, LEAK, 3, 1, 1, 32, 33, 20, 1, 35, 0, 21, 1, 0);
        due.fault(x, LEAK, 3, 7, 20, 7, 7, 21, 1, 7, 21, 1, 0);
        due.fault(x, LEAK, 1, 3, 33, 21, 1, 20, 1, 0, 0);
        due.fault(x, LEAK, 2, 1, 1, 33, 34, 21, 1, 20, 1, 20, 1, 0);
        due.fault(x, LEAK, 2, 1, 1, 33, 20, 1, 34, 20, 1, 21, 1, 0);
    }

    private static void hiddenLeaks(Due due) {
        SteadyCompiler x = secrets();
        due.fault(x, LEAK, 3, 3, 21, 1, 1, 0, 20, 1, 0, 0);
        due.fault(x, LEAK, 3, 3, 21, 1, 2, 0, 20, 1, 20, 1, 0, 0);
        due.fault(x, LEAK, 3, 3, 21, 1, 5, 20, 0, 0, 0, 0);
        due.fault(x, LEAK, 3, 3, 21, 1, 7, 20, 0, 0, 0);
        due.fault(x, LEAK, 5, 3, 21, 1, 1, 1, 33, 20, 1, 20, 1, 0, 0);
        due.fault(x, LEAK, 4, 3, 21, 1, 3, 34, 20, 1, 20, 1, 0, 0, 0);
        x = secrets();
        due.fault(x, LEAK, 4, 3, 21, 1, 4, 7, 20, 1, 0, 0);
        due.fault(x, LEAK, 8, 3, 21, 1, 3, 20, 1, 6, 1, 1, 0, 20, 1, 0, 0, 0, 0);
        due.fault(x, LEAK, 8, 3, 21, 1, 3, 20, 1, 6, 1, 7, 20, 1, 0, 0, 0, 0);
    }

    private static void noLeaks(Due due) {
        SteadyCompiler x = secrets();
        due.same("secret to secret", Due.feed(x, 1, 1, 21, 2, 0), 5);
        due.same("public to secret", Due.feed(x, 1, 1, 21, 0, 0), 5);
        due.same("secret place in a secret table", Due.feed(x, 2, 1, 21, 1, 20, 5, 0), 8);
        due.same("secret place in a public table", Due.feed(x, 1, 1, 35, 0, 21, 1, 0), 7);
        due.same("7 behind a secret 3", Due.feed(x, 3, 21, 1, 0, 7, 20, 1, 0), 8);
        due.same("33 in the E of a secret 3", Due.feed(x, 3, 22, 21, 1, 33, 20, 4, 20, 2, 0, 0), 11);
        due.same("6 and 3 hidden", Due.feed(x, 3, 21, 1, 6, 2, 3, 20, 1, 1, 1, 20, 1, 0, 0, 0, 0), 27);
        due.same("20 7 hidden is no 7", Due.feed(x, 3, 21, 1, 1, 1, 20, 7, 1, 2, 20, 33, 0, 0), 15);
    }

    private static void whatStays(Due due) {
        SteadyCompiler x = new SteadyCompiler();
        due.same("check() of nothing", x.check(), WRONG);
        due.same("place()", x.place(), 0);
        due.same("run()", x.run(), SteadyCompiler.BAD);
        Due.feed(x, 7, 20, 5, 0);
        due.same("place() without a fault", x.place(), SteadyCompiler.NONE);
        due.fault(x, WRONG, 3, 7, 20, 6, 9, 0);
        due.same("place() stays", x.place(), 3);
        due.same("count(1): the program before stays", x.count(1), 4);
        due.same("code(1)", x.code(1), 5);
        due.same("run()", x.run(), 3);
        due.same("told(0)", x.told(0), 5);
        x.token(7);
        x.token(20);
        due.same("plain() with another TEXT begun", x.plain(), 1);
        due.same("told(0)", x.told(0), 5);
        x.variable(0, true);
        due.same("place() behind variable()", x.place(), 3);
        due.same("check() of all the TEXT", Due.feed(x, 8, 0), 4);
        due.same("place() of the latest", x.place(), SteadyCompiler.NONE);
        due.fault(x, LEAK, 0, 7, 21, 0, 0);
        due.same("check()", Due.feed(x, 0), 1);
        due.same("place()", x.place(), SteadyCompiler.NONE);
    }
}
