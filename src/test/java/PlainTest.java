/** Promise 13: PLAIN runs, and how many TURNS they take. */
public final class PlainTest {
    public static void main(String[] args) {
        Due due = new Due("PlainTest");
        turns(due);
        branches(due);
        hidden(due);
        cuts(due);
        cutAtTheEndOfARound(due);
        traps(due);
        leavesTheTrace(due);
        due.end();
    }

    private static void turns(Due due) {
        SteadyCompiler x = new SteadyCompiler();
        due.same("plain() without a program", x.plain(), SteadyCompiler.BAD);
        Due.feed(x, 0);
        due.same("plain() of nothing", x.plain(), 0);
        Due.feed(x, 6, 0, 7, 20, 1, 0, 0);
        due.same("plain() of 0 times", x.plain(), 1);
        due.same("count(2)", x.count(2), 0);
        Due.feed(x, 6, 20, 0, 0);
        due.same("plain() of 20 times nothing", x.plain(), 21);
        Due.feed(x, 6, 3, 6, 2, 7, 20, 1, 0, 2, 1, 20, 2, 20, 6, 0, 0);
        due.same("plain() of 3 times", x.plain(), 1 + 3 * (1 + 2 * 2 + 1 + 1));
        due.same("count(2)", x.count(2), 6);
        due.same("at(1, 2)", x.at(1, 2), 6);
        Due.feed(x, 5, 21, 0, 1, 0, 23, 21, 0, 20, 1, 0, 7, 21, 0, 0);
        x.set(0, 4);
        due.same("plain() of a 5", x.plain(), 1 + 4 * 2 + 1);
        due.same("get(0)", x.get(0), 0);
        due.same("plain() again", x.plain(), 2);
    }

    private static void branches(Due due) {
        SteadyCompiler x = new SteadyCompiler();
        Due.feed(x, 3, 21, 0, 7, 20, 1, 7, 20, 2, 4, 7, 20, 3, 0, 3, 21, 1, 7, 20, 4, 0, 0);
        due.same("plain() with 0, 0", x.plain(), 3);
        due.same("told(0)", x.told(0), 3);
        due.same("count(2)", x.count(2), 1);
        x.set(0, Integer.MIN_VALUE);
        x.set(1, 2);
        due.same("plain() with both", x.plain(), 5);
        due.same("told(1)", x.told(1), 2);
        due.same("told(2)", x.told(2), 4);
        Due.feed(x, 3, 20, 0, 3, 20, 1, 7, 20, 5, 4, 7, 20, 6, 0, 4, 7, 20, 7, 0, 0);
        due.same("plain() with an else within", x.plain(), 2);
        due.same("told(0)", x.told(0), 7);
    }

    private static void hidden(Due due) {
        SteadyCompiler x = new SteadyCompiler();
        x.variable(1, true);
        Due.feed(x, 3, 21, 1, 6, 3, 1, 1, 22, 21, 1, 20, 1, 0, 4, 1, 1, 20, 9, 0, 0);
        due.same("plain(): the second alone", x.plain(), 2);
        due.same("get(1)", x.get(1), 9);
        due.same("plain(): the first alone", x.plain(), 2 + 3 * 2);
        due.same("get(1)", x.get(1), 12);
    }

    private static void cuts(Due due) {
        SteadyCompiler x = new SteadyCompiler();
        int[] body = Due.times(11, 1, 0, 22, 21, 0, 20, 1);
        int[] loops = Due.join(Due.t(6, 20, 6, 20), body, Due.t(0, 0));
        // 1 + 20 * (1 + 20 * (11 + 1) + 1) = 4841
        Due.feed(x, Due.join(loops, Due.t(0)));
        due.same("plain()", x.plain(), 4841);
        int[] filled = Due.join(loops, Due.t(6, 20), Due.times(6, 7, 20, 1), Due.t(0));
        // 4841 + 1 + 20 * 7 = 4982
        Due.feed(x, Due.join(filled, Due.times(18, 7, 20, 1), Due.t(0)));
        due.same("plain() of 5000", x.plain(), 5000);
        due.same("count(2)", x.count(2), 138);
        x = new SteadyCompiler();
        Due.feed(x, Due.join(filled, Due.times(18, 7, 20, 1), Due.t(1, 1, 20, 5, 0)));
        due.same("plain() of 5001", x.plain(), SteadyCompiler.CUT);
        due.same("get(0)", x.get(0), 4400);
        due.same("get(1)", x.get(1), 0);
        due.same("count(2)", x.count(2), 138);
    }

    private static void cutAtTheEndOfARound(Due due) {
        SteadyCompiler x = new SteadyCompiler();
        Due.feed(x, 5, 20, 1, 0, 0);
        due.same("plain() of empty rounds", x.plain(), SteadyCompiler.CUT);
        // The 5 is one TURN and a round two, so TURN 5000 is an S, and the round that it ends in is cut.
        Due.feed(x, 1, 1, 20, 2500, 5, 21, 1, 1, 1, 23, 21, 1, 20, 1, 0, 0);
        due.same("plain() of 2500 rounds", x.plain(), SteadyCompiler.CUT);
        due.same("get(1)", x.get(1), 1);
        Due.feed(x, 1, 1, 20, 2499, 5, 21, 1, 1, 1, 23, 21, 1, 20, 1, 0, 0);
        due.same("plain() of 2499 rounds", x.plain(), 5000);
        // The E that is asked at TURN 5000 still counts: it TRAPs here when the variable is 0.
        Due.feed(x, 1, 1, 20, 2499, 5, 26, 20, 1, 33, 20, 1, 21, 1, 1, 1, 23, 21, 1, 20, 1, 0, 0);
        due.same("plain() that traps at 5000", x.plain(), SteadyCompiler.TRAP);
        Due.feed(x, 1, 1, 20, 2499, 5, 26, 20, 1, 33, 20, 1, 21, 1, 1, 1, 23, 21, 1, 20, 1, 0, 7, 20, 1, 0);
        due.same("plain() that traps at 5000 before another S", x.plain(), SteadyCompiler.TRAP);
        Due.feed(x, 7, 20, 1, 1, 1, 20, 2499, 5, 26, 20, 1, 33, 20, 1, 21, 1, 1, 1, 23, 21, 1, 20, 1, 0, 0);
        due.same("plain() that is cut before it traps", x.plain(), SteadyCompiler.CUT);
        due.same("get(1)", x.get(1), 0);
    }

    private static void traps(Due due) {
        for (int token = 33; token <= 34; token++) {
            SteadyCompiler x = new SteadyCompiler();
            x.set(2, 6);
            Due.feed(x, 1, 0, 20, 5, 7, 20, 9, 1, 0, 22, 20, 1, token, 20, 1, 21, 1, 7, 20, 8, 1, 2, 20, 7, 0);
            due.same("plain()", x.plain(), SteadyCompiler.TRAP);
            due.same("get(0)", x.get(0), 5);
            due.same("get(2)", x.get(2), 6);
            due.same("count(2)", x.count(2), 1);
            x.set(1, 1);
            due.same("plain() without a trap", x.plain(), 5);
        }
        trapIn(due, 2, 0, 20, 0, 33, 20, 1, 20, 0);
        trapIn(due, 2, 0, 33, 20, 1, 20, 0, 20, 1);
        trapIn(due, 3, 34, 20, 1, 20, 0, 7, 20, 1, 4, 7, 20, 2, 0);
        trapIn(due, 5, 32, 34, 20, 1, 20, 0, 7, 20, 1, 0);
        trapIn(due, 7, 32, 33, 20, 1, 20, 0);
        trapIn(due, 6, 2, 7, 33, 20, 1, 20, 0, 7, 20, 1, 0);
        trapIn(due, 7, 35, 0, 33, 20, 1, 33, 20, 1, 20, 0);
    }

    private static void trapIn(Due due, int... statement) {
        SteadyCompiler x = new SteadyCompiler();
        x.put(0, 0, 77);
        String text = java.util.Arrays.toString(statement);
        due.holds("check() of " + text, Due.feed(x, Due.join(statement, Due.t(7, 20, 3, 0))) > 0);
        due.same("plain() of " + text, x.plain(), SteadyCompiler.TRAP);
        due.same("count(2) behind plain() of " + text, x.count(2), 0);
        due.same("run() of " + text, x.run(), SteadyCompiler.TRAP);
        due.same("count(2) behind run() of " + text, x.count(2), 0);
        due.same("at(0, 0) behind " + text, x.at(0, 0), 77);
    }

    private static void leavesTheTrace(Due due) {
        SteadyCompiler x = new SteadyCompiler();
        Due.feed(x, 7, 20, 5, 0);
        x.run();
        Due.feed(x, 1, 0, 20, 5, 1, 0, 20, 5, 7, 20, 6, 7, 20, 7, 0);
        due.same("plain()", x.plain(), 4);
        due.trace(x, 0, 2, 3);
        due.same("told(0)", x.told(0), 6);
        due.same("count(2)", x.count(2), 2);
    }
}
