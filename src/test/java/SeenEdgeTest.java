import java.math.BigInteger;

/** The boundary cases that the promises 12 to 17 name, each sentence in a test of its own. */
public final class SeenEdgeTest {
    private static final int MIN = Edge.MIN;
    private static final int MAX = Edge.MAX;
    private static final int NONE = SteadyCompiler.NONE;
    private static final int BAD = SteadyCompiler.BAD;
    private static final int CUT = SteadyCompiler.CUT;
    private static final int TRAP = SteadyCompiler.TRAP;
    private static final int KEPT = 5000;

    public static void main(String[] args) {
        Due due = new Due("SeenEdgeTest");
        run(due);
        plain(due);
        told(due);
        trace(due);
        traceOfTheLatestRun(due);
        mark(due);
        markRunsOver(due);
        count(due);
        countOfLostOnes(due);
        due.end();
    }

    private static void run(Due due) {
        due.sentence("A RUN of CODE: how many instructions, the end too. BAD: no PROGRAM; CUT; TRAP");
        due.same("run() of nothing", Edge.program(0).run(), 1);
        due.same("run() of one S", Edge.program(7, 20, 1, 0).run(), 3);
        due.same("run() without a PROGRAM", new SteadyCompiler().run(), BAD);
        due.same("run() behind a fault", Edge.program(8).run(), BAD);
        due.same("run() for ever", Edge.program(5, 20, 1, 0, 0).run(), CUT);
        due.same("run() with a TRAP", Edge.program(7, 34, 20, 1, 20, 0, 0).run(), TRAP);
        SteadyCompiler x = Edge.program(7, 20, 5, 0);
        x.run();
        x.variable(0, false);
        due.same("run() without a PROGRAM", x.run(), BAD);
        due.same("what was told stays", x.told(0), 5);
        due.trace(x, 0, 2, 3);
    }

    private static void plain(Due due) {
        due.sentence("PLAIN: how many TURNS. BAD, CUT, TRAP likewise");
        due.same("plain() of nothing", Edge.program(0).plain(), 0);
        due.same("plain() of one S", Edge.program(7, 20, 1, 0).plain(), 1);
        due.same("plain() without a PROGRAM", new SteadyCompiler().plain(), BAD);
        due.same("plain() behind a fault", Edge.program(8).plain(), BAD);
        due.same("plain() for ever", Edge.program(5, 20, 1, 0, 0).plain(), CUT);
        due.same("plain() with a TRAP", Edge.program(7, 34, 20, 1, 20, 0, 0).plain(), TRAP);
        SteadyCompiler x = Edge.program(7, 20, 5, 0);
        x.plain();
        due.same("THE TRACE is of RUNS of CODE alone", x.count(3), 0);
        x.variable(0, false);
        due.same("plain() without a PROGRAM", x.plain(), BAD);
        due.same("what was told stays", x.told(0), 5);
    }

    private static void told(Due due) {
        due.sentence("Number i that was told. 0: there is none");
        SteadyCompiler x = Edge.program(7, 20, 5, 7, 20, -6, 0);
        due.same("told(0) before any run", x.told(0), 0);
        for (int way = 0; way < 2; way++) {
            due.holds("a run", (way == 0 ? x.run() : x.plain()) > 0);
            due.same("told(0)", x.told(0), 5);
            due.same("told(1)", x.told(1), -6);
            int[] none = {MIN, -2, -1, 2, 3, 299, 300, 301, MAX};
            for (int i : none) {
                due.same("told(" + i + ")", x.told(i), 0);
            }
        }
    }

    /** An object whose latest RUN of CODE had a trace of just so many numbers. */
    private static SteadyCompiler traced(Due due, int numbers) {
        SteadyCompiler x = Edge.program(Due.join(Edge.lasting(numbers - 1), Due.t(0)));
        due.same("run() of " + numbers, x.run(), numbers);
        due.same("count(3) of " + numbers, x.count(3), numbers);
        return x;
    }

    private static void trace(Due due) {
        due.sentence("Number i of THE TRACE of the latest RUN of CODE, of the first 5000. NONE: there is none");
        for (int n = KEPT - 2; n <= KEPT + 2; n++) {
            SteadyCompiler x = traced(due, n);
            due.same("trace(0) of " + n, x.trace(0), 0);
            due.same("trace(1) of " + n, x.trace(1), 2);
            // The last one is the end of CODE, and before it there is a 3, or a 19 that goes there.
            int end = x.count(1) - 1;
            for (int i = KEPT - 2; i <= KEPT + 2; i++) {
                if (i >= n || i >= KEPT) {
                    due.same("trace(" + i + ") of " + n, x.trace(i), NONE);
                } else if (i == n - 1) {
                    due.same("trace(" + i + ") of " + n, x.trace(i), end);
                } else {
                    due.holds("trace(" + i + ") of " + n, x.trace(i) >= 0 && x.trace(i) < end);
                }
            }
        }
        SteadyCompiler x = Edge.program(0);
        due.same("trace(0) before any run", x.trace(0), NONE);
        x.run();
        due.same("trace(0)", x.trace(0), 0);
        int[] none = {MIN, -2, -1, 1, 2, KEPT - 1, KEPT, MAX};
        for (int i : none) {
            due.same("trace(" + i + ")", x.trace(i), NONE);
        }
    }

    private static void traceOfTheLatestRun(Due due) {
        due.sentence("Number i of THE TRACE of the latest RUN of CODE", "nothing of an earlier one, and none of a PLAIN run");
        SteadyCompiler x = traced(due, KEPT + 1);
        Due.feed(x, 7, 20, 5, 0);
        due.same("count(3) behind check()", x.count(3), KEPT + 1);
        long mark = x.mark();
        due.same("plain()", x.plain(), 1);
        due.same("count(3) behind plain()", x.count(3), KEPT + 1);
        due.same("mark() behind plain()", x.mark(), mark);
        due.same("run()", x.run(), 3);
        due.trace(x, 0, 2, 3);
        due.same("trace(4999)", x.trace(KEPT - 1), NONE);
        Due.feed(x, 7, 33, 20, 1, 20, 0, 0);
        due.same("run() with a TRAP", x.run(), TRAP);
        due.trace(x, 0, 2, 4);
    }

    private static void mark(Due due) {
        due.sentence("All of THE TRACE, also what is not kept: 31 times what was so far, and the next number, again and again, from 0 on");
        due.same("mark() before any run", new SteadyCompiler().mark(), 0);
        SteadyCompiler x = Edge.program(0);
        x.run();
        due.same("mark() of 0", x.mark(), 0);
        x = Edge.program(7, 20, 5, 0);
        x.run();
        due.same("mark() of 0, 2, 3", x.mark(), 2 * 31 + 3);
        x.run();
        due.same("mark() of 0, 2, 3 again", x.mark(), 2 * 31 + 3);
        x = Edge.program(7, 35, 3, 20, -1, 0);
        x.run();
        due.same("mark() of 0, 2, 4147, 4, 5", x.mark(), ((2 * 31 + 4147) * 31 + 4) * 31 + 5);
    }

    private static void markRunsOver(Due due) {
        due.sentence("All of THE TRACE, also what is not kept", "4999, 5000, 5001 and 20000 numbers");
        // The CODE is 1 n, 3 0, and then rounds of 2 0, 19, 2 0, 1 1, 5, 3 0, 18, until 0 is left.
        int[] round = {4, 6, 8, 10, 12, 13, 15};
        int[] many = {KEPT - 1, KEPT, KEPT + 1, 19999, 20000};
        for (int n : many) {
            int rounds = (n - 5) / 7;
            int length = 5 + 7 * rounds;
            SteadyCompiler x = Edge.program(1, 0, 20, rounds, 5, 21, 0, 1, 0, 23, 21, 0, 20, 1, 0, 0);
            due.same("run()", x.run(), length);
            BigInteger sum = BigInteger.TWO;
            for (int i = 0; i < 7 * rounds; i++) {
                sum = next(sum, round[i % 7]);
            }
            sum = next(next(next(sum, 4), 6), 17);
            due.same("mark() of " + length, x.mark(), sum.longValue());
        }
        // Rounds for ever, whose last one is amid them.
        SteadyCompiler x = Edge.program(5, 20, 1, 0, 0);
        due.same("run() for ever", x.run(), CUT);
        BigInteger sum = BigInteger.ZERO;
        for (int i = 0; i < 20000; i++) {
            sum = next(sum, 2 * (i % 3));
        }
        due.same("mark() of 20000", x.mark(), sum.longValue());
    }

    private static BigInteger next(BigInteger sum, int n) {
        return sum.multiply(BigInteger.valueOf(31)).add(BigInteger.valueOf(n)).mod(BigInteger.ONE.shiftLeft(64));
    }

    private static void count(Due due) {
        due.sentence("What = 0 TOKENS, 1 words of CODE (0 without a PROGRAM), 2 how many numbers were told");
        int[] none = {MIN, -2, -1, 4, 5, MAX};
        for (int what : none) {
            due.same("count(" + what + ")", new SteadyCompiler().count(what), BAD);
        }
        SteadyCompiler x = new SteadyCompiler();
        for (int what = 0; what <= 3; what++) {
            due.same("count(" + what + ")", x.count(what), 0);
        }
        Due.feed(x, 7, 20, 5, 7, 20, 6, 0);
        x.run();
        x.token(9);
        int[] counts = {1, 7, 2, 5};
        for (int what = 0; what <= 3; what++) {
            due.same("count(" + what + ")", x.count(what), counts[what]);
        }
        for (int what : none) {
            due.same("count(" + what + ")", x.count(what), BAD);
        }
        x.variable(0, false);
        int[] without = {1, 0, 2, 5};
        for (int what = 0; what <= 3; what++) {
            due.same("count(" + what + ") without a PROGRAM", x.count(what), without[what]);
        }
        x = new SteadyCompiler();
        for (int i = 1; i <= 402; i++) {
            x.token(0);
            if (i >= 399) {
                due.same("count(0) of " + i, x.count(0), Math.min(i, 400));
            }
        }
    }

    private static void countOfLostOnes(Due due) {
        due.sentence("2 how many numbers were told (also lost ones), 3 numbers of THE TRACE (also those that are not kept)");
        for (int n = 299; n <= 301; n++) {
            SteadyCompiler x = Edge.program(Due.join(Due.t(6, 15, 6, 19, 7, 20, 5, 0, 0), Due.times(n - 285, 7, 20, 5), Due.t(0)));
            due.holds("run()", x.run() > 0);
            due.same("count(2) of " + n, x.count(2), n);
            due.holds("plain()", x.plain() > 0);
            due.same("count(2) of " + n, x.count(2), n);
        }
        for (int n = KEPT - 1; n <= KEPT + 1; n++) {
            traced(due, n);
        }
        // A round has 8 instructions; one tells, and one goes over a TABLE of 16.
        SteadyCompiler x = new SteadyCompiler();
        x.variable(1, true);
        x.table(0, false, 16);
        Due.feed(x, 5, 20, 1, 7, 20, 5, 1, 1, 35, 0, 21, 1, 0, 0);
        due.same("run() for ever", x.run(), CUT);
        due.same("count(2)", x.count(2), 2500);
        due.same("count(3)", x.count(3), 20000 + 16 * 2500);
    }
}
