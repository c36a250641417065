/** The boundary cases that "RUNS" names, each sentence in a test of its own. */
public final class RunsEdgeTest {
    private static final int MIN = Edge.MIN;
    private static final int MAX = Edge.MAX;
    private static final int CUT = SteadyCompiler.CUT;
    private static final int TRAP = SteadyCompiler.TRAP;
    private static final int MOST = 20000;
    private static final int MOST_TURNS = 5000;

    public static void main(String[] args) {
        Due due = new Due("RunsEdgeTest");
        beginAsTheyAre(due);
        toldRoom(due);
        toldInOrder(due);
        mostInstructions(due);
        lastInstruction(due);
        plainHasNoMasks(due);
        turnsOfStatements(due);
        turnsOfRounds(due);
        askedBehindTheTurn(due);
        mostTurns(due);
        lastTurn(due);
        lastRound(due);
        divisors(due);
        staysAtATrap(due);
        staysAtACut(due);
        due.end();
    }

    /** A RUN of CODE first, then a PLAIN one. */
    private static int runOf(SteadyCompiler x, int way) {
        return way == 0 ? x.run() : x.plain();
    }

    private static void beginAsTheyAre(Due due) {
        due.sentence("RUNS begin with variables and TABLES as they are, and alter them");
        for (int way = 0; way < 2; way++) {
            SteadyCompiler x = new SteadyCompiler();
            x.set(3, 40);
            x.put(3, 3, 50);
            Due.feed(x, 1, 3, 22, 21, 3, 20, 1, 2, 3, 20, 3, 22, 35, 3, 20, 3, 20, 1, 0);
            for (int i = 1; i <= 3; i++) {
                due.holds("a run", runOf(x, way) > 0);
                due.same("get(3)", x.get(3), 40 + i);
                due.same("at(3, 3)", x.at(3, 3), 50 + i);
            }
            x.set(3, MAX);
            x.put(3, 3, MAX);
            due.holds("a run", runOf(x, way) > 0);
            due.same("get(3)", x.get(3), MIN);
            due.same("at(3, 3)", x.at(3, 3), MIN);
            due.same("get(2)", x.get(2), 0);
            due.same("at(3, 2)", x.at(3, 2), 0);
        }
    }

    /** Tells 1001, 1002, .. so many times, up to 20 beyond 280. */
    private static int[] telling(int many) {
        int[] one = {1, 1, 22, 21, 1, 20, 1, 7, 21, 1};
        return Due.join(Due.t(1, 1, 20, 1000, 6, 14, 6, 20), one, Due.t(0, 0, 6, many - 280), one, Due.t(0));
    }

    private static void toldRoom(Due due) {
        due.sentence("what is told is what the latest one told, in order (300 at most, others are lost)");
        for (int many = 298; many <= 300; many++) {
            for (int more = 0; more <= 2; more++) {
                SteadyCompiler x = Edge.program(Due.join(telling(many), Due.times(more, 7, 20, -9), Due.t(0)));
                for (int way = 0; way < 2; way++) {
                    toldUpTo(due, x, way, many, more);
                }
            }
        }
    }

    private static void toldUpTo(Due due, SteadyCompiler x, int way, int many, int more) {
        int all = many + more;
        String name = (way == 0 ? "run() of " : "plain() of ") + many + " and " + more + ", ";
        due.holds(name + "to its end", runOf(x, way) > 0);
        due.same(name + "count(2)", x.count(2), all);
        due.same(name + "told(0)", x.told(0), 1001);
        due.same(name + "told(297)", x.told(297), 1298);
        for (int i = 298; i <= 302; i++) {
            int want = i >= all || i >= 300 ? 0 : i < many ? 1001 + i : -9;
            due.same(name + "told(" + i + ")", x.told(i), want);
        }
    }

    private static void toldInOrder(Due due) {
        due.sentence("what is told is what the latest one told, in order", "nothing of an earlier one");
        SteadyCompiler x = Edge.program(Due.join(telling(300), Due.t(7, 20, 5, 0)));
        due.holds("run()", x.run() > 0);
        due.same("count(2)", x.count(2), 301);
        Due.feed(x, 7, 20, 6, 7, 20, 7, 0);
        due.same("told(299) behind check()", x.told(299), 1300);
        due.same("plain()", x.plain(), 2);
        due.same("count(2)", x.count(2), 2);
        due.same("told(0)", x.told(0), 6);
        due.same("told(1)", x.told(1), 7);
        due.same("told(2)", x.told(2), 0);
        due.same("told(299)", x.told(299), 0);
        Due.feed(x, 0);
        due.same("run() of nothing", x.run(), 1);
        due.same("count(2)", x.count(2), 0);
        due.same("told(0)", x.told(0), 0);
    }

    private static void mostInstructions(Due due) {
        due.sentence("A RUN of CODE does at most 20000 instructions");
        for (int n = MOST - 10; n <= MOST + 10; n++) {
            SteadyCompiler x = Edge.program(Due.join(Edge.lasting(n - 1), Due.t(0)));
            due.same("run() of " + n, x.run(), n <= MOST ? n : CUT);
            due.same("count(3) of " + n, x.count(3), Math.min(n, MOST));
        }
        // The same with rounds of 6, each with 6 instructions beside its S*, and 5 before and behind them.
        int[] most = Due.join(Due.t(6, 20, 6, 20), Edge.straight(42), Due.t(0, 0, 6, 19), Edge.straight(22), Due.t(0));
        int length = 5 + 20 * (6 + 5 + 20 * (6 + 42)) + 5 + 19 * (6 + 22);
        for (int n = MOST - 1; n <= MOST + 1; n++) {
            SteadyCompiler x = Edge.program(Due.join(most, Edge.straight(n - length - 1), Due.t(0)));
            due.same("run() of rounds, " + n, x.run(), n <= MOST ? n : CUT);
        }
    }

    private static void lastInstruction(Due due) {
        due.sentence("CUT: an instruction (TURN) more would come", "instructions");
        // What is looked at is instruction 19999, 20000 and 20001, the end being the next one.
        for (int n = MOST - 1; n <= MOST + 1; n++) {
            int answer = n < MOST ? n + 1 : CUT;
            boolean done = n <= MOST;
            SteadyCompiler x = Edge.program(Due.join(Edge.lasting(n - 2), Due.t(7, 20, 5, 0)));
            due.same("run() that tells at " + n, x.run(), answer);
            due.same("count(2)", x.count(2), done ? 1 : 0);
            due.same("told(0)", x.told(0), done ? 5 : 0);
            x = Edge.program(Due.join(Edge.lasting(n - 2), Due.t(1, 2, 20, 5, 0)));
            due.same("run() that sets at " + n, x.run(), answer);
            due.same("get(2)", x.get(2), done ? 5 : 0);
            x = Edge.program(Due.join(Edge.lasting(n - 3), Due.t(2, 2, 20, 1, 20, 5, 0)));
            due.same("run() that puts at " + n, x.run(), answer);
            due.same("at(2, 1)", x.at(2, 1), done ? 5 : 0);
            due.same("count(3): the PLACE, too", x.count(3), done ? Math.min(n + 1, MOST) + 1 : MOST);
            x = Edge.program(Due.join(Edge.lasting(n - 3), Due.t(7, 33, 20, 5, 20, 0, 0)));
            due.same("run() that TRAPs at " + n, x.run(), done ? TRAP : CUT);
            due.same("count(3)", x.count(3), Math.min(n, MOST));
        }
    }

    private static void plainHasNoMasks(Due due) {
        due.sentence("PLAIN the PROGRAM is done as it is told (no masks, what is HIDDEN only if it must)");
        int[] numbers = {MIN, -1, 0, 1, MAX};
        for (int n : numbers) {
            SteadyCompiler x = Edge.secrets();
            Due.feed(x, 3, 21, 1, 1, 2, 20, 5, 1, 2, 22, 21, 2, 20, 1, 4, 1, 2, 20, 7, 0, 0);
            x.set(1, n);
            due.same("plain() with " + n, x.plain(), n != 0 ? 3 : 2);
            due.same("get(2) with " + n, x.get(2), n != 0 ? 6 : 7);
            due.same("run() with " + n, x.run(), 2 + 2 + 4 + 1 + 2 + 1);
            due.same("get(2) with " + n, x.get(2), n != 0 ? 6 : 7);
            x = Edge.secrets();
            Due.feed(x, 3, 21, 1, 6, 20, 1, 2, 20, 5, 0, 0, 0);
            x.set(1, n);
            due.same("plain() of HIDDEN rounds with " + n, x.plain(), n != 0 ? 42 : 1);
        }
    }

    private static void turnsOfStatements(Due due) {
        due.sentence("each S is one when it is begun");
        due.same("plain() of nothing", Edge.program(0).plain(), 0);
        int[][] statements = {{1, 0, 20, 1}, {2, 0, 20, 1, 20, 1}, {3, 20, 0, 7, 20, 1, 0}, {5, 20, 0, 7, 20, 1, 0}, {6, 0, 7, 20, 1, 0}, {7, 20, 1}};
        for (int[] s : statements) {
            for (int many = 1; many <= 3; many++) {
                due.same("plain() of " + many + " " + s[0], Edge.program(Due.join(Due.times(many, s), Due.t(0))).plain(), many);
            }
        }
        due.same("plain() of a 3 and its S", Edge.program(3, 20, 1, 7, 20, 1, 4, 7, 20, 1, 7, 20, 1, 0, 0).plain(), 2);
        due.same("plain() of a 3 and its else", Edge.program(3, 20, 0, 7, 20, 1, 4, 7, 20, 1, 7, 20, 1, 0, 0).plain(), 3);
        due.same("plain() of a 3 and nothing", Edge.program(3, 20, 1, 4, 7, 20, 1, 0, 0).plain(), 1);
    }

    private static void turnsOfRounds(Due due) {
        due.sentence("each round of 5 or 6, when all its S* are done (the last one, too; a 5 asks its E then)");
        for (int n = 0; n <= 20; n++) {
            due.same("plain() of a 6 with " + n, Edge.program(6, n, 0, 0).plain(), 1 + n);
            due.same("plain() of a 6 with " + n + " of two S", Edge.program(6, n, 7, 20, 1, 7, 20, 1, 0, 0).plain(), 1 + 3 * n);
            SteadyCompiler x = Edge.program(5, 21, 0, 1, 0, 23, 21, 0, 20, 1, 0, 0);
            x.set(0, n);
            due.same("plain() of a 5 with " + n, x.plain(), 1 + 2 * n);
            x = Edge.program(6, 2, 6, n, 0, 0, 0);
            due.same("plain() of a 6 in a 6 with " + n, x.plain(), 1 + 2 * (1 + n + 1));
        }
    }

    private static void askedBehindTheTurn(Due due) {
        due.sentence("each round of 5 or 6, when all its S* are done (the last one, too; a 5 asks its E then)", "a 5 asks its E then");
        // The 5 asks 1 / variable 1, which its S makes 0 in the first round, so that its second asking TRAPs.
        int[] trapping = {1, 1, 20, 1, 5, 26, 20, 1, 33, 20, 1, 21, 1, 1, 1, 20, 0, 0};
        for (int n = MOST_TURNS - 1; n <= MOST_TURNS + 1; n++) {
            // The 1, the 5 and the 1 in it are TURNS, and number n is the round's.
            SteadyCompiler x = Edge.program(Due.join(Edge.turning(n - 4), trapping, Due.t(0)));
            due.same("plain() that asks at " + n, x.plain(), n <= MOST_TURNS ? TRAP : CUT);
            due.same("get(1): all its S* are done", x.get(1), 0);
        }
        SteadyCompiler x = Edge.program(5, 33, 20, 1, 20, 0, 7, 20, 1, 0, 0);
        due.same("plain() that TRAPs when it asks first", x.plain(), TRAP);
        due.same("count(2)", x.count(2), 0);
    }

    private static void mostTurns(Due due) {
        due.sentence("5000 at most", "TURNS");
        for (int n = MOST_TURNS - 10; n <= MOST_TURNS + 10; n++) {
            SteadyCompiler x = Edge.program(Due.join(Edge.turning(n), Due.t(0)));
            due.same("plain() of " + n, x.plain(), n <= MOST_TURNS ? n : CUT);
        }
        // 20 times 20 rounds of eleven S, and some more.
        int[] rounds = Due.join(Due.t(6, 20, 6, 20), Due.times(11, 1, 9, 20, 0), Due.t(0, 0));
        for (int n = MOST_TURNS - 1; n <= MOST_TURNS + 1; n++) {
            int rest = n - (1 + 20 * (2 + 20 * 12));
            int[] filled = Due.join(rounds, Due.t(6, 20), Due.times(6, 1, 9, 20, 0), Due.t(0), Due.times(rest - 141, 1, 9, 20, 0));
            due.same("plain() of rounds, " + n, Edge.program(Due.join(filled, Due.t(0))).plain(), n <= MOST_TURNS ? n : CUT);
        }
        due.same("plain() for ever", Edge.program(5, 20, 1, 0, 0).plain(), CUT);
        due.same("plain() for ever with S", Edge.program(5, 20, 1, 7, 20, 1, 0, 0).plain(), CUT);
    }

    private static void lastTurn(Due due) {
        due.sentence("CUT: an instruction (TURN) more would come", "a TURN of S");
        for (int n = MOST_TURNS - 1; n <= MOST_TURNS + 1; n++) {
            boolean done = n <= MOST_TURNS;
            int answer = done ? n : CUT;
            SteadyCompiler x = Edge.program(Due.join(Edge.turning(n - 1), Due.t(7, 20, 5, 0)));
            due.same("plain() that tells at " + n, x.plain(), answer);
            due.same("count(2)", x.count(2), done ? 1 : 0);
            due.same("told(0)", x.told(0), done ? 5 : 0);
            x = Edge.program(Due.join(Edge.turning(n - 1), Due.t(1, 2, 20, 5, 0)));
            due.same("plain() that sets at " + n, x.plain(), answer);
            due.same("get(2)", x.get(2), done ? 5 : 0);
            x = Edge.program(Due.join(Edge.turning(n - 1), Due.t(2, 2, 20, 1, 20, 5, 0)));
            due.same("plain() that puts at " + n, x.plain(), answer);
            due.same("at(2, 1)", x.at(2, 1), done ? 5 : 0);
            x = Edge.program(Due.join(Edge.turning(n - 1), Due.t(7, 33, 20, 5, 20, 0, 0)));
            due.same("plain() that TRAPs at " + n, x.plain(), done ? TRAP : CUT);
            x = Edge.program(Due.join(Edge.turning(n - 1), Due.t(3, 33, 20, 5, 20, 0, 0, 0)));
            due.same("plain() with a 3 that TRAPs at " + n, x.plain(), done ? TRAP : CUT);
            x = Edge.program(Due.join(Edge.turning(n - 1), Due.t(3, 20, 1, 0, 0)));
            due.same("plain() with a 3 at " + n, x.plain(), answer);
            x = Edge.program(Due.join(Edge.turning(n - 1), Due.t(6, 0, 0, 0)));
            due.same("plain() with a 6 at " + n, x.plain(), answer);
            x = Edge.program(Due.join(Edge.turning(n - 1), Due.t(5, 20, 0, 0, 0)));
            due.same("plain() with a 5 at " + n, x.plain(), answer);
        }
    }

    private static void lastRound(Due due) {
        due.sentence("CUT: an instruction (TURN) more would come", "a TURN of a round");
        for (int n = MOST_TURNS - 1; n <= MOST_TURNS + 1; n++) {
            int answer = n <= MOST_TURNS ? n : CUT;
            SteadyCompiler x = Edge.program(Due.join(Edge.turning(n - 3), Due.t(6, 1, 7, 20, 5, 0, 0)));
            due.same("plain() with a round of 6 at " + n, x.plain(), answer);
            due.same("told(0): its S is done", x.told(0), 5);
            x = Edge.program(Due.join(Edge.turning(n - 3), Due.t(6, 2, 0, 0)));
            due.same("plain() with an empty round of 6 at " + n, x.plain(), answer);
            x = Edge.program(Due.join(Edge.turning(n - 4), Due.t(1, 1, 20, 1, 5, 21, 1, 1, 1, 20, 0, 0, 0)));
            due.same("plain() with a round of 5 at " + n, x.plain(), answer);
            due.same("get(1): its S is done", x.get(1), 0);
            // Behind the round that ends at n there is one S more.
            x = Edge.program(Due.join(Edge.turning(n - 3), Due.t(6, 2, 0, 7, 20, 5, 0)));
            due.same("plain() with an S behind " + n, x.plain(), n < MOST_TURNS ? n + 1 : CUT);
            due.same("count(2)", x.count(2), n < MOST_TURNS ? 1 : 0);
        }
    }

    private static void divisors(Due due) {
        due.sentence("TRAP: a quotient or rest by 0");
        int[] numbers = {MIN, -1, 0, 1, MAX};
        for (int token = 33; token <= 34; token++) {
            for (int n : numbers) {
                for (int d : numbers) {
                    SteadyCompiler x = Edge.program(7, token, 20, n, 20, d, 0);
                    due.same("run() of " + n + " by " + d, x.run(), d == 0 ? TRAP : 5);
                    due.same("count(2)", x.count(2), d == 0 ? 0 : 1);
                    due.same("plain() of " + n + " by " + d, x.plain(), d == 0 ? TRAP : 1);
                    due.same("count(2)", x.count(2), d == 0 ? 0 : 1);
                }
            }
        }
        // Nothing else TRAPs with a second number that is 0.
        for (int token = 22; token <= 31; token++) {
            due.same("run() of " + token, Edge.program(7, token, 20, 1, 20, 0, 0).run(), 5);
        }
    }

    private static void staysAtATrap(Due due) {
        due.sentence("Then all stays as it is there", "TRAP");
        int[] trap = {33, 20, 1, 20, 0};
        int[][][] around = {
            {{1, 1}, {}}, {{2, 0, 20, 1}, {}}, {{2, 0}, {20, 1}}, {{3}, {1, 1, 20, 8, 4, 1, 1, 20, 8, 0}}, {{5}, {1, 1, 20, 8, 0}}, {{7}, {}},
            {{1, 1, 36, 20, 1, 20, 2}, {}}, {{1, 1, 32}, {}}, {{1, 1, 35, 0}, {}}, {{6, 1, 1, 1}, {1, 1, 20, 8, 0}}
        };
        int[] before = {1, 0, 20, 5, 2, 1, 20, 2, 20, 6, 7, 20, 7};
        int[] behind = {1, 1, 20, 8, 2, 0, 20, 1, 20, 8, 7, 20, 8, 0};
        for (int[][] pair : around) {
            for (int way = 0; way < 2; way++) {
                SteadyCompiler x = new SteadyCompiler();
                Due.feed(x, Due.join(before, pair[0], trap, pair[1], behind));
                String name = (way == 0 ? "run(), " : "plain(), ") + java.util.Arrays.toString(pair[0]) + ", ";
                due.same(name + "the answer", runOf(x, way), TRAP);
                due.same(name + "get(0)", x.get(0), 5);
                due.same(name + "at(1, 2)", x.at(1, 2), 6);
                due.same(name + "told(0)", x.told(0), 7);
                due.same(name + "count(2)", x.count(2), 1);
                due.same(name + "get(1)", x.get(1), 0);
                due.same(name + "at(0, 1)", x.at(0, 1), 0);
                due.same(name + "the PROGRAM stays", x.count(1) > 0 ? 1 : 0, 1);
            }
        }
    }

    private static void staysAtACut(Due due) {
        due.sentence("Then all stays as it is there", "CUT");
        // Each round counts variable 1 and a number of TABLE 3 up, and tells.
        int[] body = {1, 1, 22, 21, 1, 20, 1, 2, 3, 20, 3, 22, 35, 3, 20, 3, 20, 1, 7, 21, 1};
        SteadyCompiler x = Edge.program(Due.join(Due.t(5, 20, 1), body, Due.t(0, 0)));
        due.same("run()", x.run(), CUT);
        // 20000 instructions are 1333 rounds of 15 and 5 more, and it is the sixth that sets variable 1.
        due.same("get(1)", x.get(1), 1333);
        due.same("at(3, 3)", x.at(3, 3), 1333);
        due.same("count(2)", x.count(2), 1333);
        due.same("told(299)", x.told(299), 300);
        due.same("run() goes on from there", x.run(), CUT);
        due.same("get(1)", x.get(1), 2666);
        due.same("count(2)", x.count(2), 1333);
        x = Edge.program(Due.join(Due.t(5, 20, 1), body, Due.t(0, 0)));
        due.same("plain()", x.plain(), CUT);
        // The 5 is one TURN and a round four: 4999 are 1249 rounds and three S.
        due.same("get(1)", x.get(1), 1250);
        due.same("at(3, 3)", x.at(3, 3), 1250);
        due.same("count(2)", x.count(2), 1250);
        due.same("told(299)", x.told(299), 300);
        due.same("told(300)", x.told(300), 0);
        due.same("plain() goes on from there", x.plain(), CUT);
        due.same("get(1)", x.get(1), 2500);
        due.same("count(2)", x.count(2), 1250);
    }
}
