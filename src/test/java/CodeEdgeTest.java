/** The boundary cases that "CODE" and "THE TRACE" name, each sentence in a test of its own. */
public final class CodeEdgeTest {
    private static final int MIN = Edge.MIN;
    private static final int MAX = Edge.MAX;
    private static final int TRAP = SteadyCompiler.TRAP;
    private static final int CUT = SteadyCompiler.CUT;
    private static final int[] SOME = {MIN, -1, 0, 1, 2, MAX};

    public static void main(String[] args) {
        Due due = new Due("CodeEdgeTest");
        pileIsEmpty(due);
        pileIsDeepEnough(due);
        deepestMasks(due);
        maskNumbers(due);
        maskZero(due);
        maskIsSet(due);
        maskIsTurned(due);
        maskedBits(due);
        counts(due);
        countsBeginAgain(due);
        countNumbers(due);
        theEnd(due);
        jumps(due);
        lookups(due);
        layings(due);
        branchesWithoutStatements(due);
        loopsWithoutStatements(due);
        traceOfTrap(due);
        traceOfOthers(due);
        traceOfPlaces(due);
        traceOfWholeTables(due);
        due.end();
    }

    private static void pileIsEmpty(Due due) {
        due.sentence("There is a pile of numbers, at first empty");
        // Each TRAP leaves twenty numbers behind.
        int[] waiting = Due.times(9, 36, 20, 1, 20, 2);
        SteadyCompiler x = Edge.program(Due.join(Due.t(7), waiting, Due.t(33, 20, 3, 21, 0, 0)));
        for (int i = 0; i < 60; i++) {
            due.same("run() " + i, x.run(), TRAP);
        }
        x.set(0, 1);
        due.same("run() without a TRAP", x.run(), 9 * 3 + 3 + 2);
        due.same("told(0)", x.told(0), 2);
        Due.feed(x, 7, 22, 20, 3, 20, 4, 0);
        due.same("run() of a sum", x.run(), 5);
        due.same("told(0)", x.told(0), 7);
    }

    private static void pileIsDeepEnough(Due due) {
        due.sentence("There is a pile of numbers", "as many as can wait at once");
        int[] numbers = new int[0];
        for (int i = 0; i < 10; i++) {
            numbers = Due.join(numbers, Due.t(36, 20, i == 0 ? 1 : 0, 20, 40 + i));
        }
        SteadyCompiler x = Edge.program(Due.join(Due.t(2, 1, 20, 2), numbers, Due.t(20, 8, 0)));
        due.same("run()", x.run(), 1 + 3 * 10 + 1 + 1 + 1);
        due.same("at(1, 2): the lowest choice", x.at(1, 2), 40);
        x.table(1, false, 4);
        numbers[2] = 0;
        Due.feed(x, Due.join(Due.t(2, 1, 20, 2), numbers, Due.t(20, 8, 0)));
        due.same("run()", x.run(), 1 + 3 * 10 + 1 + 1 + 1);
        due.same("at(1, 2): the uppermost number", x.at(1, 2), 8);
    }

    /** Ten 3 within one another, each with its variable; what is in the innermost and in each else goes into a TABLE. */
    private static int[] tenMasks() {
        int[] all = new int[0];
        for (int i = 0; i < 10; i++) {
            all = Due.join(all, Due.t(3, 21, i));
        }
        all = Due.join(all, Due.t(2, 0, 20, 0, 20, -7));
        for (int i = 9; i >= 0; i--) {
            all = Due.join(all, Due.t(4, 2, 0, 20, i + 1, 20, -7, 0));
        }
        return Due.join(all, Due.t(0));
    }

    private static void deepestMasks(Due due) {
        due.sentence("MASKS 0 .. 12, MASK 0 always -1", "as many as can be around");
        SteadyCompiler all = withTenMasks(due, -1);
        for (int zero = 0; zero < 10; zero++) {
            due.same("mark() with 0 in " + zero, withTenMasks(due, zero).mark(), all.mark());
        }
    }

    /** Runs the ten masks, where this variable is 0 and the others are not. */
    private static SteadyCompiler withTenMasks(Due due, int zero) {
        SteadyCompiler x = new SteadyCompiler();
        x.table(0, true, 16);
        for (int v = 0; v < 10; v++) {
            x.variable(v, true);
            x.set(v, v == zero ? 0 : v % 2 == 0 ? MIN : 1);
        }
        for (int p = 0; p <= 10; p++) {
            x.put(0, p, 5);
        }
        due.holds("check()", Due.feed(x, tenMasks()) > 0);
        // A 3 has 2 instructions and an else 1, and each of the 11 writings 3.
        due.same("run() with 0 in " + zero, x.run(), 10 * 3 + 11 * 3 + 1);
        for (int p = 0; p <= 10; p++) {
            due.same("at(0, " + p + ") with 0 in " + zero, x.at(0, p), p == zero + 1 ? -7 : 5);
        }
        return x;
    }

    private static void maskNumbers(Due due) {
        due.sentence("m being how many 3 with a SECRET E are around");
        SteadyCompiler x = Edge.secrets();
        Due.feed(x, Due.join(Due.times(11, 3, 21, 1), Due.times(11, 4, 0), Due.t(0)));
        for (int m = 1; m <= 11; m++) {
            due.same("the 3 within " + (m - 1), x.code(4 * m - 2), 23);
            due.same("its MASK", x.code(4 * m - 1), m);
            due.same("its 4", x.code(44 + 2 * (11 - m)), 24);
            due.same("its MASK there", x.code(45 + 2 * (11 - m)), m);
        }
        due.same("count(1)", x.count(1), 67);
        due.same("run()", x.run(), 34);
        due.fault(Edge.secrets(), SteadyCompiler.DEEP, 34, Due.join(Due.times(12, 3, 21, 1), Due.times(13, 0)));
        // A 3 with a PUBLIC E, a 6, and one that has ended before do not count.
        due.code(Edge.secrets(), Due.t(3, 21, 1, 0, 3, 20, 1, 3, 21, 1, 1, 1, 20, 5, 0, 0, 0),
            2, 1, 23, 1, 1, 1, 19, 17, 2, 1, 23, 1, 1, 5, 25, 1, 1, 0);
        due.code(Edge.secrets(), Due.t(3, 21, 1, 3, 21, 2, 0, 3, 21, 2, 1, 1, 20, 5, 0, 1, 1, 20, 6, 0, 1, 1, 20, 7, 0),
            2, 1, 23, 1, 2, 2, 23, 2, 2, 2, 23, 2, 1, 5, 25, 2, 1, 1, 6, 25, 1, 1, 1, 7, 3, 1, 0);
    }

    private static void maskZero(Due due) {
        due.sentence("MASKS 0 .. 12, MASK 0 always -1", "MASK 0");
        for (int n : SOME) {
            SteadyCompiler x = Edge.secrets();
            due.code(x, Due.t(3, 21, 1, 4, 0, 2, 1, 21, 2, 20, n, 0), 2, 1, 23, 1, 24, 1, 2, 2, 1, n, 28, 0, 1, 0);
            for (int secret = 0; secret < 2; secret++) {
                x.set(1, secret);
                x.put(1, 0, ~n);
                due.same("run()", x.run(), 7);
                due.same("at(1, 0): all bits", x.at(1, 0), n);
            }
        }
    }

    private static void maskIsSet(Due due) {
        due.sentence("23 m: MASK m becomes MASK m - 1 if the top one is not 0, else 0");
        for (int n : SOME) {
            SteadyCompiler x = Edge.secrets();
            Due.feed(x, 3, 21, 1, 1, 2, 20, -1, 0, 0);
            x.set(1, n);
            due.same("run()", x.run(), 5);
            due.same("get(2) with " + n, x.get(2), n == 0 ? 0 : -1);
            Due.feed(x, 3, 20, 1, 3, 21, 1, 3, 32, 32, 21, 1, 1, 2, 20, 6, 0, 0, 0, 0);
            due.holds("run() of one within another", x.run() > 0);
            due.same("get(2) with " + n, x.get(2), n == 0 ? 0 : 6);
        }
    }

    private static void maskIsTurned(Due due) {
        due.sentence("24 m: MASK m becomes MASK m - 1 without the bits of MASK m");
        for (int n : SOME) {
            for (int k : SOME) {
                SteadyCompiler x = Edge.secrets();
                x.variable(3, true);
                Due.feed(x, 3, 21, 1, 3, 21, 2, 4, 1, 3, 20, 5, 0, 4, 3, 21, 2, 4, 1, 3, 20, 6, 0, 0, 0);
                x.set(1, n);
                x.set(2, k);
                due.same("run()", x.run(), 14);
                due.same("get(3) with " + n + ", " + k, x.get(3), k != 0 ? 0 : n != 0 ? 5 : 6);
            }
        }
    }

    private static void maskedBits(Due due) {
        due.sentence("25 m v: of variable v the bits that MASK m has become those of the top one. 26 m t: as 22, with these bits alone");
        for (int before : SOME) {
            for (int after : SOME) {
                for (int secret = 0; secret < 2; secret++) {
                    SteadyCompiler x = Edge.secrets();
                    Due.feed(x, 3, 21, 1, 1, 2, 20, after, 2, 1, 20, 3, 20, after, 2, 2, 21, 1, 20, after, 0, 0);
                    x.set(1, secret);
                    x.set(2, before);
                    x.put(1, 3, before);
                    x.put(2, secret, before);
                    due.same("run()", x.run(), 11);
                    String name = " from " + before + " to " + after + " with " + secret;
                    due.same("get(2)" + name, x.get(2), secret == 1 ? after : before);
                    due.same("at(1, 3)" + name, x.at(1, 3), secret == 1 ? after : before);
                    due.same("at(2, " + secret + ")" + name, x.at(2, secret), secret == 1 ? after : before);
                    due.same("get(1)" + name, x.get(1), secret);
                    due.same("at(1, 2)" + name, x.at(1, 2), 0);
                    due.same("at(2, 2)" + name, x.at(2, 2), 0);
                }
            }
        }
    }

    private static void counts(Due due) {
        due.sentence("COUNTS 0 .. 11");
        SteadyCompiler x = Edge.program(Due.join(Due.times(12, 6, 1), Due.times(13, 0)));
        due.same("run() of twelve 6", x.run(), 12 * 11 + 1);
        due.same("plain()", x.plain(), 24);
        // Each of the twelve is the one with three rounds once; all that is in it comes three times then.
        for (int k = 0; k < 12; k++) {
            x = Edge.program(Due.join(Due.times(k, 6, 1), Due.t(6, 3), Due.times(11 - k, 6, 1), Due.times(13, 0)));
            due.same("run() with three rounds in " + k, x.run(), 11 * k + 5 + 3 * 6 + 3 * 11 * (11 - k) + 1);
        }
        due.fault(SteadyCompiler.DEEP, 24, Due.join(Due.times(13, 6, 1), Due.times(14, 0)));
    }

    private static void countsBeginAgain(Due due) {
        due.sentence("29 k: COUNT k is 0. 30 k: it comes on the pile. 31 k: it is one more");
        SteadyCompiler x = Edge.program(6, 20, 6, 3, 7, 20, 1, 0, 0, 6, 2, 7, 20, 2, 0, 0);
        for (int i = 0; i < 2; i++) {
            due.same("run()", x.run(), 5 + 20 * (6 + 5 + 3 * 8) + 5 + 2 * 8 + 1);
            due.same("count(2)", x.count(2), 62);
            due.same("told(59)", x.told(59), 1);
            due.same("told(60)", x.told(60), 2);
        }
        // 400 times over nothing is left on the pile.
        x = Edge.program(6, 20, 6, 20, 6, 2, 7, 20, 1, 0, 0, 0, 0);
        due.same("run() with 421 of 29", x.run(), 5 + 20 * (6 + 5 + 20 * (6 + 5 + 2 * 8)) + 1);
        due.same("count(2)", x.count(2), 800);
        // A TRAP amid the rounds leaves a COUNT that the next RUN does not see.
        x = Edge.program(6, 5, 7, 33, 20, 1, 23, 21, 1, 20, 3, 1, 1, 22, 21, 1, 20, 1, 0, 0);
        due.same("run() with a TRAP", x.run(), TRAP);
        due.same("count(2)", x.count(2), 3);
        x.set(1, 4);
        due.holds("run() without a TRAP", x.run() > 0);
        due.same("count(2)", x.count(2), 5);
    }

    private static void countNumbers(Due due) {
        due.sentence("6, k others of 6 being around");
        SteadyCompiler x = Edge.program(Due.join(Due.times(12, 6, 1), Due.times(13, 0)));
        for (int k = 0; k < 12; k++) {
            due.same("29 of " + k, x.code(9 * k), 29);
            due.same("its COUNT", x.code(9 * k + 1), k);
            due.same("30 of " + k, x.code(9 * k + 2), 30);
            due.same("its COUNT there", x.code(9 * k + 3), k);
            due.same("31 of " + k, x.code(108 + 4 * (11 - k)), 31);
            due.same("its COUNT there", x.code(109 + 4 * (11 - k)), k);
        }
        // A 3 and a 5 around, and a 6 that has ended before, do not count.
        due.code(new SteadyCompiler(), Due.t(6, 0, 0, 3, 20, 1, 5, 20, 0, 6, 20, 0, 0, 0, 0),
            29, 0, 30, 0, 1, 0, 12, 19, 13, 31, 0, 18, 2,
            1, 1, 19, 36, 1, 0, 19, 36, 29, 0, 30, 0, 1, 20, 12, 19, 34, 31, 0, 18, 23, 18, 17, 0);
    }

    private static void theEnd(Due due) {
        due.sentence("0: the end");
        due.code(new SteadyCompiler(), Due.t(0), 0);
        SteadyCompiler x = Edge.program(7, 20, 0, 7, 21, 0, 7, 35, 0, 20, 0, 1, 0, 20, 0, 6, 0, 0, 0);
        due.same("run(): words that are 0 but no instruction", x.run(), 15);
        due.same("count(2)", x.count(2), 3);
        due.same("the last of THE TRACE", x.trace(x.count(3) - 1), x.count(1) - 1);
    }

    private static void jumps(Due due) {
        due.sentence("18 a: on at word a. 19 a: if the top one is 0");
        for (int n : SOME) {
            SteadyCompiler x = Edge.program(3, 20, n, 7, 20, 5, 4, 7, 20, 6, 0, 0);
            due.same("run() with " + n, x.run(), n != 0 ? 6 : 5);
            if (n != 0) {
                due.trace(x, 0, 2, 4, 6, 7, 12);
            } else {
                due.trace(x, 0, 2, 9, 11, 12);
            }
        }
    }

    private static void lookups(Due due) {
        due.sentence("35: 21 t, if E is PUBLIC, else 27 t");
        due.code(Edge.secrets(), Due.t(7, 35, 0, 20, 1, 0), 1, 1, 21, 0, 20, 0);
        due.code(Edge.secrets(), Due.t(1, 1, 35, 1, 20, 1, 0), 1, 1, 21, 1, 3, 1, 0);
        due.code(Edge.secrets(), Due.t(1, 1, 35, 0, 21, 1, 0), 2, 1, 27, 0, 3, 1, 0);
        due.code(Edge.secrets(), Due.t(1, 1, 35, 1, 21, 1, 0), 2, 1, 27, 1, 3, 1, 0);
        due.code(Edge.secrets(), Due.t(1, 1, 35, 0, 35, 0, 35, 1, 20, 3, 0), 1, 3, 21, 1, 27, 0, 27, 0, 3, 1, 0);
        due.code(Edge.secrets(), Due.t(3, 21, 1, 1, 1, 35, 1, 20, 3, 0, 0), 2, 1, 23, 1, 1, 3, 21, 1, 25, 1, 1, 0);
    }

    private static void layings(Due due) {
        due.sentence("2: both E, then 22 t (HIDDEN: 26 m t); if the first is SECRET 28 m t");
        due.code(Edge.secrets(), Due.t(2, 0, 20, 1, 20, 2, 0), 1, 1, 1, 2, 22, 0, 0);
        due.code(Edge.secrets(), Due.t(2, 1, 20, 1, 21, 2, 0), 1, 1, 2, 2, 22, 1, 0);
        due.code(Edge.secrets(), Due.t(2, 1, 21, 1, 20, 2, 0), 2, 1, 1, 2, 28, 0, 1, 0);
        due.code(Edge.secrets(), Due.t(3, 21, 1, 2, 1, 20, 1, 21, 2, 0, 0), 2, 1, 23, 1, 1, 1, 2, 2, 26, 1, 1, 0);
        due.code(Edge.secrets(), Due.t(3, 21, 1, 2, 1, 21, 1, 20, 2, 0, 0), 2, 1, 23, 1, 2, 1, 1, 2, 28, 1, 1, 0);
        due.code(Edge.secrets(), Due.t(3, 21, 1, 3, 21, 1, 2, 2, 21, 1, 20, 2, 2, 2, 20, 1, 20, 2, 0, 0, 0),
            2, 1, 23, 1, 2, 1, 23, 2, 2, 1, 1, 2, 28, 2, 2, 1, 1, 1, 2, 26, 2, 2, 0);
    }

    private static void branchesWithoutStatements(Due due) {
        due.sentence("3: E, 19 x, S*, x being behind that; with a 4: E, 19 x, S*, 18 y, and at x the second S*, y being behind that");
        due.code(Edge.secrets(), Due.t(3, 20, 1, 0, 0), 1, 1, 19, 4, 0);
        due.code(Edge.secrets(), Due.t(3, 20, 1, 4, 0, 0), 1, 1, 19, 6, 18, 6, 0);
        due.code(Edge.secrets(), Due.t(3, 20, 1, 7, 20, 5, 0, 0), 1, 1, 19, 7, 1, 5, 20, 0);
        due.code(Edge.secrets(), Due.t(3, 20, 1, 7, 20, 5, 4, 0, 0), 1, 1, 19, 9, 1, 5, 20, 18, 9, 0);
        due.code(Edge.secrets(), Due.t(3, 20, 1, 4, 7, 20, 5, 0, 0), 1, 1, 19, 6, 18, 9, 1, 5, 20, 0);
        due.code(Edge.secrets(), Due.t(3, 21, 1, 0, 0), 2, 1, 23, 1, 0);
        due.code(Edge.secrets(), Due.t(3, 21, 1, 4, 0, 0), 2, 1, 23, 1, 24, 1, 0);
    }

    private static void loopsWithoutStatements(Due due) {
        due.sentence("5: E, 19 y, S*, 18 x, x being where E begins, y behind all");
        due.code(new SteadyCompiler(), Due.t(5, 20, 0, 0, 0), 1, 0, 19, 6, 18, 0, 0);
        due.code(new SteadyCompiler(), Due.t(7, 20, 1, 5, 32, 20, 0, 7, 20, 2, 0, 7, 20, 3, 0),
            1, 1, 20, 1, 0, 14, 19, 13, 1, 2, 20, 18, 3, 1, 3, 20, 0);
        due.sentence("29 k, 30 k, 1 n, 12, 19 y, S*, 31 k, 18 x, x being where 30 k stands, y behind all");
        due.code(new SteadyCompiler(), Due.t(6, 0, 0, 0), 29, 0, 30, 0, 1, 0, 12, 19, 13, 31, 0, 18, 2, 0);
        due.code(new SteadyCompiler(), Due.t(7, 20, 1, 6, 20, 7, 20, 2, 0, 7, 20, 3, 0),
            1, 1, 20, 29, 0, 30, 0, 1, 20, 12, 19, 19, 1, 2, 20, 31, 0, 18, 5, 1, 3, 20, 0);
    }

    private static void traceOfTrap(Due due) {
        due.sentence("for each instruction that is begun (also the one that TRAPs) where it stands");
        for (int token = 33; token <= 34; token++) {
            SteadyCompiler x = Edge.program(7, token, 20, 1, 21, 0, 0);
            due.same("run()", x.run(), TRAP);
            due.trace(x, 0, 2, 4);
            x.set(0, 1);
            due.same("run() without a TRAP", x.run(), 5);
            due.trace(x, 0, 2, 4, 5, 6);
        }
        SteadyCompiler x = Edge.program(0);
        due.same("run() of nothing", x.run(), 1);
        due.trace(x, 0);
        x = Edge.program(5, 20, 1, 0, 0);
        due.same("run() for ever", x.run(), CUT);
        due.same("count(3): no more than are begun", x.count(3), 20000);
    }

    private static void traceOfOthers(Due due) {
        due.sentence("for each instruction that is begun (also the one that TRAPs) where it stands", "and of each other one that alone");
        for (int token = 22; token <= 34; token++) {
            if (token != 32) {
                SteadyCompiler x = Edge.program(7, token, 20, 1, 21, 0, 0);
                x.set(0, 1);
                due.same("run() of " + token, x.run(), 5);
                due.trace(x, 0, 2, 4, 5, 6);
            }
        }
        SteadyCompiler x = Edge.program(1, 3, 36, 32, 20, 1, 20, 2, 20, 3, 7, 21, 3, 0);
        due.same("run() of 14, 17, 3, 20", x.run(), 9);
        due.trace(x, 0, 2, 3, 5, 7, 8, 10, 12, 13);
        x = Edge.secrets();
        Due.feed(x, 3, 21, 1, 1, 1, 20, 5, 4, 1, 2, 20, 6, 0, 0);
        x.put(1, 0, 7);
        x.put(2, 0, 7);
        due.same("run() of 23, 25, 24", x.run(), 8);
        due.trace(x, 0, 2, 4, 6, 9, 11, 13, 16);
        due.same("at(1, 0): 25 touches no TABLE", x.at(1, 0), 7);
        due.same("at(2, 0): 25 touches no TABLE", x.at(2, 0), 7);
        x = Edge.program(6, 1, 5, 20, 0, 0, 0, 0);
        due.same("run() of 29, 30, 19, 31, 18", x.run(), 14);
        due.trace(x, 0, 2, 4, 6, 7, 9, 11, 15, 17, 2, 4, 6, 7, 19);
    }

    private static void traceOfPlaces(Due due) {
        due.sentence("for 21, 22, 26 4096 + 16 t + PLACE");
        for (int t = 0; t <= 3; t++) {
            for (int p = 0; p <= 15; p++) {
                SteadyCompiler x = new SteadyCompiler();
                x.variable(1, true);
                x.variable(2, true);
                x.table(t, true, 16);
                Due.feed(x, 1, 1, 35, t, 20, p, 2, t, 20, p, 20, 5, 3, 21, 1, 2, t, 20, p, 20, 5, 0, 0);
                due.same("run()", x.run(), 12);
                int seen = 4096 + 16 * t + p;
                due.trace(x, 0, 2, seen, 4, 6, 8, 10, seen, 12, 14, 16, 18, 20, seen, 23);
            }
        }
    }

    private static void traceOfWholeTables(Due due) {
        due.sentence("for 27 and 28 such a number for each PLACE of the TABLE, the least first");
        for (int t = 0; t <= 3; t++) {
            for (int size = 1; size <= 16; size++) {
                SteadyCompiler x = new SteadyCompiler();
                x.variable(1, true);
                x.table(t, true, size);
                Due.feed(x, 1, 1, 35, t, 21, 1, 2, t, 21, 1, 20, 5, 0);
                x.set(1, size);
                due.same("run()", x.run(), 7);
                int[] seen = new int[size];
                for (int p = 0; p < size; p++) {
                    seen[p] = 4096 + 16 * t + p;
                }
                due.trace(x, Due.join(Due.t(0, 2), seen, Due.t(4, 6, 8, 10), seen, Due.t(13)));
            }
        }
    }
}
