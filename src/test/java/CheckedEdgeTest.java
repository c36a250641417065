/** The boundary cases that "CHECKED" names, each sentence in a test of its own. */
public final class CheckedEdgeTest {
    private static final int MIN = Edge.MIN;
    private static final int MAX = Edge.MAX;
    private static final int WRONG = SteadyCompiler.WRONG;
    private static final int NUMBER = SteadyCompiler.NUMBER;
    private static final int DEEP = SteadyCompiler.DEEP;
    private static final int LEAK = SteadyCompiler.LEAK;

    // S around S: what stands before the inner one, what behind it, and where the first E or S is.
    private static final int[][][] STATEMENTS_AROUND = {
        {{6, 1}, {0}, {2}}, {{3, 20, 1}, {0}, {1}}, {{3, 20, 1, 4}, {0}, {1}}, {{3, 20, 1}, {4, 0}, {1}}, {{5, 20, 0}, {0}, {1}}
    };
    // The same, but such that the inner one is done, if variable 1 is 1.
    private static final int[][][] STATEMENTS_DONE = {
        {{6, 1}, {0}}, {{3, 20, 1}, {0}}, {{3, 20, 0, 4}, {0}}, {{3, 20, 1}, {4, 0}}, {{5, 21, 1}, {1, 1, 20, 0, 0}}
    };
    // S around E.
    private static final int[][][] STATEMENTS_BEFORE = {
        {{1, 0}, {}}, {{2, 0}, {20, 7}}, {{2, 0, 20, 1}, {}}, {{3}, {7, 20, 5, 0}}, {{3}, {4, 7, 20, 5, 0}}, {{5}, {0}}, {{7}, {}}
    };
    // E around E, such that it matters what the inner one is.
    private static final int[][][] EXPRESSIONS_AROUND = {
        {{22}, {20, 1}, {1}}, {{22, 20, 1}, {}, {1}}, {{32}, {}, {1}}, {{34}, {20, 100}, {1}}, {{33, 20, 100}, {}, {1}}, {{35, 0}, {}, {2}},
        {{36}, {20, 1, 20, 0}, {1}}, {{36, 20, 1}, {20, 9}, {1}}, {{36, 20, 0, 20, 9}, {}, {1}}
    };

    public static void main(String[] args) {
        Due due = new Due("CheckedEdgeTest");
        firstFault(due);
        noStatement(due);
        noExpression(due);
        endWhereOneMust(due);
        behindTheLast(due);
        numbers(due);
        deepStatements(due);
        deepestStatements(due);
        deepExpressions(due);
        deepTokens(due);
        wrongBeforeDeep(due);
        places(due);
        secretExpressions(due);
        hidden(due);
        hiddenAtAnyDepth(due);
        leaks(due);
        noLeaks(due);
        firstLeak(due);
        due.end();
    }

    private static void passes(Due due, SteadyCompiler x, int... tokens) {
        due.holds("check() of " + java.util.Arrays.toString(tokens) + " finds no fault", Due.feed(x, tokens) > 0);
        due.same("place()", x.place(), SteadyCompiler.NONE);
    }

    private static void passes(Due due, int... tokens) {
        passes(due, new SteadyCompiler(), tokens);
    }

    private static boolean divides(int[][] kind) {
        return kind[0][0] == 33 || kind[0][0] == 34;
    }

    private static void firstFault(Due due) {
        due.sentence("the first fault of these counts", "from the left");
        due.fault(WRONG, 1, 7, 19, 1, 10);
        due.fault(NUMBER, 1, 1, 10, 19);
        due.fault(DEEP, 24, Due.join(Due.times(12, 6, 0), Due.t(6, 21, 8)));
        due.fault(NUMBER, 23, Due.join(Due.times(11, 6, 0), Due.t(6, 21, 6, 0)));
        due.fault(WRONG, 0, Due.join(Due.t(8), Due.times(13, 6, 0)));
        SteadyCompiler x = Edge.secrets();
        due.fault(x, WRONG, 3, 7, 21, 1, 8, 0);
        due.fault(x, NUMBER, 4, 7, 21, 1, 1, 10, 20, 1, 0);
        due.fault(x, DEEP, 27, Due.join(Due.t(7, 21, 1), Due.times(13, 6, 0), Due.times(14, 0)));
        due.fault(x, WRONG, 4, 7, 21, 1, 0, 0);
        due.fault(x, LEAK, 0, 7, 21, 1, 0);
    }

    private static void noStatement(Due due) {
        due.sentence("WRONG: a token that cannot stand there", "where S may begin");
        passes(due, 1, 0, 20, 1, 0);
        passes(due, 2, 0, 20, 1, 20, 1, 0);
        passes(due, 3, 20, 1, 0, 0);
        passes(due, 5, 20, 1, 0, 0);
        passes(due, 6, 1, 0, 0);
        passes(due, 7, 20, 1, 0);
        int[] none = {MIN, -1, 4, 8, 9, 19, 20, 21, 36, 37, MAX};
        for (int n : none) {
            due.fault(WRONG, 0, n, 20, 1, 0, 0);
            due.fault(WRONG, 3, 7, 20, 1, n, 0);
            due.fault(WRONG, 3, 5, 20, 1, n, 0, 0);
            due.fault(WRONG, 2, 6, 1, n, 0, 0);
            due.fault(WRONG, 4, 3, 20, 1, 4, n, 0, 0);
            if (n != 4) {
                due.fault(WRONG, 3, 3, 20, 1, n, 0, 0);
            }
        }
    }

    private static void noExpression(Due due) {
        due.sentence("WRONG: a token that cannot stand there", "where E must begin");
        for (int n = 20; n <= 36; n++) {
            passes(due, Due.join(Due.t(7), expression(n), Due.t(0)));
        }
        int[] none = {MIN, -1, 0, 1, 4, 7, 8, 19, 37, 38, MAX};
        for (int n : none) {
            due.fault(WRONG, 1, 7, n, 0, 0);
            due.fault(WRONG, 2, 1, 0, n, 0, 0);
            due.fault(WRONG, 2, 2, 0, n, 0, 20, 1, 0);
            due.fault(WRONG, 4, 2, 0, 20, 1, n, 0, 0);
            due.fault(WRONG, 1, 3, n, 0, 0, 0);
            due.fault(WRONG, 1, 5, n, 0, 0, 0);
            for (int e = 22; e <= 36; e++) {
                int first = e == 35 ? 3 : 2;
                due.fault(WRONG, first, Due.join(Due.t(7), Due.t(e), e == 35 ? Due.t(0) : Due.t(), Due.t(n, 0)));
                if (e != 32 && e != 35) {
                    due.fault(WRONG, 4, 7, e, 20, 1, n, 0);
                }
            }
            due.fault(WRONG, 6, 7, 36, 20, 1, 20, 1, n, 0);
        }
    }

    /** A whole E that begins with this token. */
    private static int[] expression(int token) {
        if (token <= 21) {
            return Due.t(token, 1);
        }
        if (token == 35) {
            return Due.t(35, 0, 20, 1);
        }
        return Due.join(Due.t(token), Due.times(token == 32 ? 1 : token == 36 ? 3 : 2, 20, 1));
    }

    private static void endWhereOneMust(Due due) {
        due.sentence("or the end, where one must");
        int[] whole = {2, 3, 36, 20, 0, 21, 9, 35, 2, 20, 1, 32, 20, 4, 3, 30, 20, 0, 20, 1, 6, 20, 0, 4, 5, 20, 0, 1, 9, 20, 0, 0, 0, 7, 20, 0, 0};
        passes(due, whole);
        for (int n = 0; n < whole.length; n++) {
            due.fault(WRONG, n, java.util.Arrays.copyOf(whole, n));
        }
    }

    private static void behindTheLast(Due due) {
        due.sentence("or one behind the last 0");
        int[] any = {MIN, -1, 0, 1, 4, 6, 7, 20, 36, 37, MAX};
        for (int n : any) {
            due.fault(WRONG, 1, 0, n);
            due.fault(WRONG, 1, 0, n, 0);
            due.fault(WRONG, 4, 7, 20, 1, 0, n);
            due.fault(WRONG, 4, 6, 1, 0, 0, n);
        }
        passes(due, 7, 20, 1, 0);
        passes(due, 6, 1, 0, 0);
    }

    private static void numbers(Due due) {
        due.sentence("NUMBER: a v, t or n (of 6) that is none");
        bounds(due, 9, 1, new int[][] {{1}, {20, 0, 0}});
        bounds(due, 9, 2, new int[][] {{7, 21}, {0}});
        bounds(due, 3, 1, new int[][] {{2}, {20, 0, 20, 0, 0}});
        bounds(due, 3, 2, new int[][] {{7, 35}, {20, 0, 0}});
        bounds(due, 20, 1, new int[][] {{6}, {0, 0}});
        // The n of 20 is any number.
        passes(due, 7, 20, -1, 7, 20, 21, 7, 20, MIN, 7, 20, MAX, 0);
    }

    private static void bounds(Due due, int last, int place, int[][] around) {
        int[] some = {0, 1, last - 1, last};
        for (int n : some) {
            passes(due, Due.join(around[0], Due.t(n), around[1]));
        }
        int[] none = {-1, -2, last + 1, last + 2, MIN, MAX};
        for (int n : none) {
            due.fault(NUMBER, place, Due.join(around[0], Due.t(n), around[1]));
        }
    }

    /** Tokens within so many others of this kind. */
    private static int[] within(int[][] kind, int many, int... inner) {
        return Due.join(Due.times(many, kind[0]), inner, Due.times(many, kind[1]));
    }

    private static int[] ended(int... statements) {
        return Due.join(statements, Due.t(0));
    }

    private static void deepStatements(Due due) {
        due.sentence("DEEP: a token of S or E that is within 12 others of these", "S within S");
        for (int[][] kind : STATEMENTS_AROUND) {
            int width = kind[0].length;
            passes(due, ended(within(kind, 10, 7, 20, 1)));
            passes(due, ended(within(kind, 11, 6, 1, 0)));
            due.fault(DEEP, 11 * width + 1, ended(within(kind, 11, 7, 20, 1)));
            // The twelfth 3 or 5 has its own E within 12 others; the twelfth 6 has none.
            due.fault(DEEP, kind[0][0] == 6 ? 24 : 11 * width + 1, ended(within(kind, 12, 6, 1, 0)));
        }
        Edge.asModelled(due, ended(within(STATEMENTS_AROUND[0], 12)));
        due.fault(DEEP, 24, ended(within(STATEMENTS_AROUND[0], 13)));
    }

    private static void deepestStatements(Due due) {
        due.sentence("DEEP: a token of S or E that is within 12 others of these", "what is within 11 is done");
        for (int[][] kind : STATEMENTS_DONE) {
            for (int[][] before : STATEMENTS_BEFORE) {
                if (before[1].length < 4) {
                    int[] inner = within(before, 1, 20, 77);
                    Edge.asModelled(due, ended(Due.join(Due.t(1, 1, 20, 1), within(kind, 10, inner))));
                }
            }
            Edge.asModelled(due, ended(Due.join(Due.t(1, 1, 20, 1), within(kind, 10, 3, 20, 1, 6, 1, 0, 4, 0))));
            Edge.asModelled(due, ended(Due.join(Due.t(1, 1, 20, 1), within(kind, 10, 3, 20, 0, 4, 6, 1, 0, 0))));
            Edge.asModelled(due, ended(Due.join(Due.t(1, 1, 20, 1), within(kind, 10, 6, 2, 6, 3, 0, 0))));
            SteadyCompiler x = Edge.program(ended(Due.join(Due.t(1, 1, 20, 1), within(kind, 10, 7, 20, 77))));
            due.holds("run()", x.run() > 0);
            due.same("told(0)", x.told(0), 77);
            due.holds("plain()", x.plain() > 0);
            due.same("told(0)", x.told(0), 77);
        }
    }

    private static void deepExpressions(Due due) {
        due.sentence("DEEP: a token of S or E that is within 12 others of these", "E within S and E");
        for (int[][] before : STATEMENTS_BEFORE) {
            for (int[][] kind : EXPRESSIONS_AROUND) {
                int begin = before[0].length;
                Edge.asModelled(due, ended(within(before, 1, within(kind, 9, 20, 77))));
                Edge.asModelled(due, ended(within(before, 1, within(kind, 10, 20, 77))));
                passes(due, ended(within(before, 1, within(kind, 10, 21, 1))));
                due.fault(DEEP, begin + 10 * kind[0].length + kind[2][0], ended(within(before, 1, within(kind, 11, 20, 1))));
            }
        }
        // Some S and some E around.
        int[][] six = STATEMENTS_AROUND[0];
        int[][] not = EXPRESSIONS_AROUND[2];
        for (int many = 0; many <= 10; many++) {
            passes(due, ended(within(six, many, Due.join(Due.t(7), within(not, 10 - many, 20, 1)))));
            due.fault(DEEP, 2 * many + 1 + 11 - many, ended(within(six, many, Due.join(Due.t(7), within(not, 11 - many, 20, 1)))));
        }
    }

    private static void deepTokens(Due due) {
        due.sentence("DEEP: a token of S or E that is within 12 others of these", "each token");
        int[][] six = STATEMENTS_AROUND[0];
        int[][] statements = {{1, 0, 20, 1}, {2, 0, 20, 1, 20, 1}, {3, 20, 1, 0}, {5, 20, 0, 0}, {6, 1, 0}, {7, 20, 1}};
        for (int[] s : statements) {
            passes(due, ended(within(six, 10, s)));
            due.fault(DEEP, 24, ended(within(six, 12, s)));
        }
        for (int token = 20; token <= 36; token++) {
            due.fault(DEEP, 23, ended(within(six, 11, Due.join(Due.t(7), expression(token)))));
            passes(due, ended(within(six, 9, Due.join(Due.t(7), expression(token)))));
        }
        // A v, t or n, and a 0 or 4, are no tokens of S or E.
        due.fault(NUMBER, 22, ended(within(six, 10, 7, 21, 10)));
        due.fault(NUMBER, 23, ended(within(six, 11, 6, 21, 0)));
        due.fault(NUMBER, 23, ended(within(six, 11, 2, 4, 20, 1, 20, 1)));
        passes(due, ended(within(six, 10, 3, 20, 1, 4, 0)));
        passes(due, ended(within(six, 12)));
        due.fault(WRONG, 24, ended(within(six, 12, 4)));
    }

    private static void wrongBeforeDeep(Due due) {
        due.sentence("(Of one token WRONG first.)");
        int[][] six = STATEMENTS_AROUND[0];
        int[] noStatements = {MIN, -1, 4, 8, 20, 36, MAX};
        for (int n : noStatements) {
            due.fault(WRONG, 24, ended(within(six, 12, n)));
        }
        int[] statements = {1, 2, 3, 5, 6, 7};
        for (int n : statements) {
            due.fault(DEEP, 24, ended(within(six, 12, n)));
        }
        int[] noExpressions = {MIN, -1, 0, 1, 7, 19, 37, MAX};
        for (int n : noExpressions) {
            due.fault(WRONG, 23, ended(within(six, 11, 7, n)));
        }
        for (int n = 20; n <= 36; n++) {
            due.fault(DEEP, 23, ended(within(six, 11, 7, n)));
        }
        due.fault(WRONG, 24, Due.times(12, 6, 1));
        due.fault(WRONG, 23, Due.join(Due.times(11, 6, 1), Due.t(7)));
    }

    private static void places(Due due) {
        due.sentence("Its place is that token's, or THE TEXT's length");
        due.fault(WRONG, 0);
        due.fault(WRONG, 0, 8);
        due.fault(WRONG, 1, 7);
        due.fault(WRONG, 1, 7, 8);
        int[] most = Due.times(132, 6, 0, 0);
        due.fault(WRONG, 398, Due.join(most, Due.t(7, 20)));
        due.fault(WRONG, 399, Due.join(most, Due.t(7, 20, 0)));
        due.fault(WRONG, 399, Due.join(most, Due.t(7, 20, 0, 8)));
        due.fault(WRONG, 400, Due.join(most, Due.t(1, 0, 20, 0)));
        due.fault(NUMBER, 399, Due.join(most, Due.t(6, 0, 1, 10)));
        due.fault(NUMBER, 398, Due.join(most, Due.t(7, 21, 10, 0)));
        due.fault(DEEP, 399, Due.join(Due.times(125, 6, 0, 0), Due.times(12, 6, 0), Due.t(6)));
        SteadyCompiler x = Edge.secrets();
        due.fault(x, LEAK, 396, Due.join(most, Due.t(7, 21, 1, 0)));
        due.fault(x, LEAK, 0, 7, 21, 1, 0);
    }

    private static void secretExpressions(Due due) {
        due.sentence("E is SECRET if a variable or TABLE in it is SECRET");
        int[][] open = {{20, 1}, {21, 0}, {35, 0, 20, 1}, {35, 3, 21, 9}};
        int[][] secret = {{21, 1}, {21, 2}, {35, 1, 20, 0}, {35, 2, 21, 0}, {35, 0, 21, 1}, {35, 0, 35, 1, 20, 0}};
        for (int[] e : open) {
            passes(due, Edge.secrets(), Due.join(Due.t(7), e, Due.t(0)));
        }
        for (int[] e : secret) {
            due.fault(Edge.secrets(), LEAK, 0, Due.join(Due.t(7), e, Due.t(0)));
            for (int[][] kind : EXPRESSIONS_AROUND) {
                if (!divides(kind)) {
                    due.fault(Edge.secrets(), LEAK, 0, ended(Due.join(Due.t(7), within(kind, 1, e))));
                    due.fault(Edge.secrets(), LEAK, 0, ended(Due.join(Due.t(7), within(kind, 8, e))));
                }
            }
        }
        // Whether it is SECRET is asked when check() comes.
        SteadyCompiler x = Edge.secrets();
        x.token(7);
        x.variable(1, false);
        passes(due, x, 21, 1, 0);
        x.token(7);
        x.variable(1, true);
        due.fault(x, LEAK, 0, 21, 1, 0);
    }

    private static void hidden(Due due) {
        due.sentence("HIDDEN is all that is among the S* of a 3 whose E is SECRET, at any depth (not that E)", "right among them");
        passes(due, Edge.secrets(), 3, 20, 1, 7, 20, 1, 4, 7, 20, 1, 0, 0);
        due.fault(Edge.secrets(), LEAK, 3, 3, 21, 1, 7, 20, 1, 4, 0, 0);
        due.fault(Edge.secrets(), LEAK, 4, 3, 21, 1, 4, 7, 20, 1, 0, 0);
        // Before it and behind it nothing is.
        passes(due, Edge.secrets(), 7, 20, 1, 3, 21, 1, 0, 7, 20, 1, 0);
        passes(due, Edge.secrets(), 7, 20, 1, 3, 21, 1, 4, 0, 7, 20, 1, 0);
        // Its E is not, but the E of a 3 among its S* is.
        passes(due, Edge.secrets(), 3, 22, 21, 1, 33, 20, 1, 20, 1, 0, 0);
        passes(due, Edge.secrets(), 3, 35, 1, 34, 20, 1, 20, 1, 0, 0);
        due.fault(Edge.secrets(), LEAK, 4, 3, 21, 1, 3, 33, 20, 1, 20, 1, 0, 0, 0);
        due.fault(Edge.secrets(), LEAK, 5, 3, 21, 1, 4, 3, 34, 20, 1, 20, 1, 0, 0, 0);
    }

    private static void hiddenAtAnyDepth(Due due) {
        due.sentence("HIDDEN is all that is among the S* of a 3 whose E is SECRET, at any depth (not that E)", "at each depth");
        int[][][] kinds = {STATEMENTS_AROUND[0], STATEMENTS_AROUND[1], STATEMENTS_AROUND[2]};
        for (int[][] kind : kinds) {
            for (int many = 0; many <= 9; many++) {
                int place = 3 + many * kind[0].length;
                due.fault(Edge.secrets(), LEAK, place, Due.join(Due.t(3, 21, 1), within(kind, many, 7, 20, 1), Due.t(0, 0)));
                due.fault(Edge.secrets(), LEAK, place + 1, Due.join(Due.t(3, 21, 1, 4), within(kind, many, 1, 0, 20, 1), Due.t(0, 0)));
                passes(due, Edge.secrets(), Due.join(Due.t(3, 21, 1), within(kind, many, 1, 1, 20, 1), Due.t(0, 0)));
                passes(due, Edge.secrets(), Due.join(Due.t(3, 20, 1), within(kind, many, 7, 20, 1), Due.t(0, 0)));
            }
        }
        // Also among the S* of a PUBLIC 3 behind a SECRET one within it.
        passes(due, Edge.secrets(), 3, 20, 1, 3, 21, 1, 0, 7, 20, 1, 0, 0);
        due.fault(Edge.secrets(), LEAK, 10, 3, 21, 1, 3, 20, 1, 1, 1, 20, 7, 7, 20, 1, 0, 0, 0);
    }

    /** A token that all can see LEAKs with a SECRET E, and where it is HIDDEN; otherwise it does not. */
    private static void leaks(Due due) {
        due.sentence("LEAK, at the token: 1 of a PUBLIC variable, 2 of a PUBLIC TABLE, 5, 7, 33, 34, if (one) E behind it is SECRET, or it is HIDDEN");
        int[] open = {20, 1};
        int[] secret = {21, 1};
        leak(due, 0, new int[][] {{1, 0}, {}}, open, secret);
        leak(due, 0, new int[][] {{1, 9}, {}}, open, secret);
        leak(due, 0, new int[][] {{2, 0}, {20, 1}}, open, secret);
        leak(due, 0, new int[][] {{2, 3, 20, 1}, {}}, open, secret);
        leak(due, 0, new int[][] {{5}, {0}}, open, secret);
        leak(due, 0, new int[][] {{7}, {}}, open, secret);
        leak(due, 2, new int[][] {{1, 1, 33}, {20, 1}}, open, secret);
        leak(due, 2, new int[][] {{1, 1, 33, 20, 1}, {}}, open, secret);
        leak(due, 2, new int[][] {{1, 1, 34}, {20, 1}}, open, secret);
        leak(due, 2, new int[][] {{1, 1, 34, 20, 1}, {}}, open, secret);
        leak(due, 1, new int[][] {{3, 33}, {20, 1, 0}}, open, secret);
        leak(due, 2, new int[][] {{2, 1, 34}, {20, 1, 20, 1}}, open, secret);
    }

    private static void leak(Due due, int token, int[][] around, int[] open, int[] secret) {
        passes(due, Edge.secrets(), ended(within(around, 1, open)));
        due.fault(Edge.secrets(), LEAK, token, ended(within(around, 1, secret)));
        due.fault(Edge.secrets(), LEAK, token, ended(within(around, 1, Due.t(35, 1, 20, 0))));
        due.fault(Edge.secrets(), LEAK, 3 + token, ended(Due.join(Due.t(3, 21, 2), within(around, 1, open), Due.t(0))));
        due.fault(Edge.secrets(), LEAK, 4 + token, ended(Due.join(Due.t(3, 21, 2, 4), within(around, 1, open), Due.t(0))));
    }

    private static void noLeaks(Due due) {
        due.sentence("LEAK, at the token: 1 of a PUBLIC variable, 2 of a PUBLIC TABLE, 5, 7, 33, 34", "no other token");
        int[][] secret = {{21, 1}, {35, 1, 20, 1}, {35, 0, 21, 1}};
        for (int[] e : secret) {
            fine(due, Due.join(Due.t(1, 1), e));
            fine(due, Due.join(Due.t(2, 1), e, Due.t(20, 1)));
            fine(due, Due.join(Due.t(2, 1, 20, 1), e));
            fine(due, Due.join(Due.t(2, 2), e, e));
            fine(due, Due.join(Due.t(3), e, Due.t(0)));
            fine(due, Due.join(Due.t(3), e, Due.t(4, 6, 3, 0, 0)));
            for (int[][] kind : EXPRESSIONS_AROUND) {
                if (!divides(kind)) {
                    fine(due, Due.join(Due.t(1, 2), within(kind, 1, e)));
                }
            }
            for (int token = 22; token <= 31; token++) {
                fine(due, Due.join(Due.t(1, 2, token), e, e));
            }
        }
        // The words 7, 33, 5 behind 20, 21, 6 are no tokens of S or E.
        fine(due, Due.t(1, 1, 20, 7, 1, 1, 20, 33, 1, 1, 21, 5, 6, 7, 0, 6, 5, 0));
    }

    private static void fine(Due due, int... statements) {
        passes(due, Edge.secrets(), ended(statements));
        passes(due, Edge.secrets(), ended(Due.join(Due.t(3, 21, 2), statements, Due.t(0))));
        passes(due, Edge.secrets(), ended(Due.join(Due.t(3, 21, 2, 4), statements, Due.t(0))));
    }

    private static void firstLeak(Due due) {
        due.sentence("Then from the left");
        due.fault(Edge.secrets(), LEAK, 0, 7, 33, 21, 1, 20, 1, 0);
        due.fault(Edge.secrets(), LEAK, 2, 1, 1, 33, 34, 21, 1, 20, 1, 20, 1, 0);
        due.fault(Edge.secrets(), LEAK, 8, 1, 1, 22, 33, 20, 1, 20, 1, 34, 21, 1, 20, 1, 7, 21, 1, 0);
        due.fault(Edge.secrets(), LEAK, 3, 7, 20, 1, 7, 21, 1, 1, 0, 21, 1, 0);
        due.fault(Edge.secrets(), LEAK, 6, 3, 21, 1, 6, 2, 0, 1, 0, 20, 1, 7, 20, 1, 0, 0);
        due.fault(Edge.secrets(), LEAK, 0, 5, 21, 1, 7, 21, 1, 0, 0);
        due.fault(Edge.secrets(), LEAK, 1, 3, 33, 21, 1, 20, 1, 7, 20, 1, 0, 0);
    }
}
