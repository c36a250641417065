/** The boundary cases that "What it is" and the promises 1 to 11 name, each sentence in a test of its own. */
public final class PromiseEdgeTest {
    private static final int MIN = Edge.MIN;
    private static final int MAX = Edge.MAX;
    private static final int NONE = SteadyCompiler.NONE;
    private static final int BAD = SteadyCompiler.BAD;
    private static final int FULL = SteadyCompiler.FULL;
    private static final int WRONG = SteadyCompiler.WRONG;
    private static final int[] NO_VARIABLES = {MIN, -2, -1, 10, 11, MAX};
    private static final int[] NO_TABLES = {MIN, -2, -1, 4, 5, MAX};
    private static final int[] ANY = {MIN, -5, -2, -1, 0, 1, MAX};

    public static void main(String[] args) {
        Due due = new Due("PromiseEdgeTest");
        calls(due);
        callsOfEachKind(due);
        newObject(due);
        variable(due);
        variableDropsTheProgram(due);
        table(due);
        tableDropsTheProgram(due);
        token(due);
        check(due);
        checkLeavesTheProgram(due);
        place(due);
        code(due);
        set(due);
        put(due);
        get(due);
        at(due);
        due.end();
    }

    private static void calls(Due due) {
        due.sentence("An object is used for at most 512 calls after it has been made");
        SteadyCompiler x = new SteadyCompiler();
        for (int i = 1; i <= 512; i++) {
            due.same("call " + i + ": set(0, " + i + ")", x.set(0, i), i - 1);
        }
        x = new SteadyCompiler();
        for (int i = 1; i <= 510; i++) {
            due.same("call " + i + ": token(7)", x.token(7), i <= 400 ? i : FULL);
        }
        due.same("call 511: check()", x.check(), WRONG);
        due.same("call 512: place()", x.place(), 1);
        x = Edge.program(0);
        for (int i = 3; i <= 512; i++) {
            due.same("call " + i + ": run()", x.run(), 1);
        }
    }

    /** What a 513th call answers is free, but it answers. */
    private static void callsOfEachKind(Due due) {
        due.sentence("what later calls answer is free", "but none throws");
        SteadyCompiler x = Edge.program(5, 20, 1, 7, 20, 1, 0, 0);
        for (int i = 0; i < 600; i++) {
            x.token(i);
        }
        x.run();
        x.plain();
        x.told(299);
        x.trace(4999);
        x.mark();
        x.count(3);
        x.check();
        x.place();
        x.code(0);
        x.set(0, 1);
        x.put(0, 0, 1);
        x.get(0);
        x.at(0, 0);
        x.variable(0, true);
        x.table(0, true, 1);
        due.holds("all have answered", true);
    }

    private static void newObject(Due due) {
        due.sentence("An empty TEXT, no PROGRAM");
        SteadyCompiler x = new SteadyCompiler();
        for (int what = 0; what <= 3; what++) {
            due.same("count(" + what + ")", x.count(what), 0);
        }
        due.same("run()", x.run(), BAD);
        due.same("plain()", x.plain(), BAD);
        due.same("code(0)", x.code(0), 0);
        due.same("told(0)", x.told(0), 0);
        due.same("trace(0)", x.trace(0), NONE);
        due.same("mark()", x.mark(), 0);
        due.same("place()", x.place(), NONE);
        due.same("check()", x.check(), WRONG);
        due.same("place()", x.place(), 0);
        due.same("token(0)", new SteadyCompiler().token(0), 1);
        Edge.program(7, 20, 1, 0).run();
        due.same("another object's PROGRAM is not its own: run()", new SteadyCompiler().run(), BAD);
    }

    private static void variable(Due due) {
        due.sentence("A variable is SECRET or PUBLIC; there is no PROGRAM then: whether it was SECRET (1 or 0). BAD");
        for (int v = 0; v <= 9; v++) {
            SteadyCompiler x = new SteadyCompiler();
            x.set(v, 7);
            due.same("variable(" + v + ", false)", x.variable(v, false), 0);
            due.same("variable(" + v + ", true)", x.variable(v, true), 0);
            due.same("variable(" + v + ", true) again", x.variable(v, true), 1);
            due.same("the one beside it", x.variable((v + 1) % 10, false), 0);
            due.same("variable(" + v + ", false)", x.variable(v, false), 1);
            due.same("variable(" + v + ", false) again", x.variable(v, false), 0);
            due.same("get(" + v + ")", x.get(v), 7);
        }
        for (int v : NO_VARIABLES) {
            SteadyCompiler x = new SteadyCompiler();
            due.same("variable(" + v + ", true)", x.variable(v, true), BAD);
            due.same("variable(" + v + ", false)", x.variable(v, false), BAD);
            for (int other = 0; other <= 9; other++) {
                due.same("none is SECRET by that", x.variable(other, false), 0);
            }
        }
    }

    private static void variableDropsTheProgram(Due due) {
        due.sentence("A variable is SECRET or PUBLIC; there is no PROGRAM then", "the PROGRAM");
        for (int v : NO_VARIABLES) {
            SteadyCompiler x = Edge.program(7, 20, 5, 0);
            x.variable(v, true);
            due.same("count(1) behind variable(" + v + ", true)", x.count(1), 4);
            due.same("run()", x.run(), 3);
            due.same("plain()", x.plain(), 1);
        }
        for (int v = 0; v <= 9; v++) {
            for (int state = 0; state < 4; state++) {
                boolean was = state % 2 == 1;
                boolean becomes = state / 2 == 1;
                SteadyCompiler x = new SteadyCompiler();
                x.variable(v, was);
                Due.feed(x, 7, 20, 5, 0);
                due.same("variable(" + v + ", " + becomes + ")", x.variable(v, becomes), was ? 1 : 0);
                dropped(due, x);
            }
        }
    }

    private static void dropped(Due due, SteadyCompiler x) {
        due.same("count(1)", x.count(1), 0);
        due.same("code(0)", x.code(0), 0);
        due.same("run()", x.run(), BAD);
        due.same("plain()", x.plain(), BAD);
        due.same("check() with a fault brings none back", x.check(), WRONG);
        due.same("run()", x.run(), BAD);
        due.same("check()", Due.feed(x, 7, 20, 6, 0), 4);
        due.same("run()", x.run(), 3);
        due.same("told(0)", x.told(0), 6);
    }

    private static void table(Due due) {
        due.sentence("A TABLE is SECRET or PUBLIC, and has so many numbers, all 0; there is no PROGRAM then: how many it had. BAD");
        for (int t = 0; t <= 3; t++) {
            SteadyCompiler x = new SteadyCompiler();
            due.same("table(" + t + ", true, 16)", x.table(t, true, 16), 4);
            for (int i = 0; i < 16; i++) {
                x.put(t, i, 7);
            }
            due.same("table(" + t + ", true, 1)", x.table(t, true, 1), 16);
            due.same("at(" + t + ", 0)", x.at(t, 0), 0);
            due.same("at(" + t + ", 1)", x.at(t, 1), BAD);
            due.same("table(" + t + ", true, 16)", x.table(t, true, 16), 1);
            for (int i = 0; i < 16; i++) {
                due.same("at(" + t + ", " + i + ")", x.at(t, i), 0);
            }
            x.put(t, 15, 7);
            due.same("as many again", x.table(t, false, 16), 16);
            due.same("at(" + t + ", 15)", x.at(t, 15), 0);
            due.same("it is PUBLIC: check()", Due.feed(x, 7, 35, t, 20, 0, 0), 6);
        }
        wrongTables(due);
    }

    private static void wrongTables(Due due) {
        SteadyCompiler x = new SteadyCompiler();
        x.put(0, 0, 7);
        x.put(3, 3, 7);
        for (int t : NO_TABLES) {
            due.same("table(" + t + ", true, 4)", x.table(t, true, 4), BAD);
        }
        int[] noSizes = {MIN, -1, 0, 17, 18, MAX};
        for (int n : noSizes) {
            due.same("table(0, true, " + n + ")", x.table(0, true, n), BAD);
            due.same("table(3, true, " + n + ")", x.table(3, true, n), BAD);
        }
        due.same("table(-1, true, 0)", x.table(-1, true, 0), BAD);
        due.same("at(0, 0) stays", x.at(0, 0), 7);
        due.same("at(3, 3) stays", x.at(3, 3), 7);
        due.same("none is SECRET by that: check()", Due.feed(x, 7, 35, 0, 20, 0, 7, 35, 3, 20, 0, 0), 11);
        due.same("table(3, true, 5)", x.table(3, true, 5), 4);
    }

    private static void tableDropsTheProgram(Due due) {
        due.sentence("A TABLE is SECRET or PUBLIC, and has so many numbers, all 0; there is no PROGRAM then", "the PROGRAM");
        int[][] none = {{-1, 4}, {4, 4}, {0, 0}, {3, 17}, {MIN, MIN}, {MAX, MAX}};
        for (int[] pair : none) {
            SteadyCompiler x = Edge.program(7, 20, 5, 0);
            x.table(pair[0], true, pair[1]);
            due.same("count(1) behind table(" + pair[0] + ", true, " + pair[1] + ")", x.count(1), 4);
            due.same("run()", x.run(), 3);
            due.same("plain()", x.plain(), 1);
        }
        int[] sizes = {1, 4, 16};
        for (int t = 0; t <= 3; t++) {
            for (int size : sizes) {
                for (int state = 0; state < 4; state++) {
                    SteadyCompiler x = new SteadyCompiler();
                    x.table(t, state % 2 == 1, 4);
                    Due.feed(x, 7, 20, 5, 0);
                    due.same("table(" + t + ", .., " + size + ")", x.table(t, state / 2 == 1, size), 4);
                    dropped(due, x);
                }
            }
        }
    }

    private static void token(Due due) {
        due.sentence("A TOKEN more: how many. FULL");
        SteadyCompiler x = new SteadyCompiler();
        for (int i = 1; i <= 400; i++) {
            due.same("token " + i, x.token(ANY[i % ANY.length]), i);
        }
        due.same("token 401", x.token(0), FULL);
        due.same("token 402", x.token(7), FULL);
        due.same("count(0)", x.count(0), 400);
        due.same("check()", x.check(), WRONG);
        due.same("token 1 behind check()", x.token(7), 1);
        due.same("token 2 behind check()", x.token(20), 2);
        x.variable(0, true);
        due.same("token 3 behind variable()", x.token(5), 3);
        x.table(0, true, 1);
        due.same("token 4 behind table()", x.token(0), 4);
        due.same("check()", x.check(), 4);
        due.same("code(1)", x.code(1), 5);
    }

    private static void check(Due due) {
        due.sentence("THE TEXT is CHECKED, and empty then: how many words the CODE of the PROGRAM has");
        SteadyCompiler x = new SteadyCompiler();
        due.same("check() of 0", Due.feed(x, 0), 1);
        due.same("count(0)", x.count(0), 0);
        due.same("check() of an empty TEXT", x.check(), WRONG);
        due.same("count(0)", x.count(0), 0);
        due.same("count(1)", x.count(1), 1);
        due.same("check() of a half", Due.feed(x, 7, 20), WRONG);
        due.same("check() of the other half", Due.feed(x, 5, 0), WRONG);
        due.same("check() of the whole", Due.feed(x, 7, 20, 5, 0), 4);
        due.same("count(1)", x.count(1), 4);
        // The longest CODE there is.
        due.same("check() of 400 tokens", Due.feed(new SteadyCompiler(), Due.join(Due.times(133, 6, 20, 0), Due.t(0))), 1730);
    }

    private static void checkLeavesTheProgram(Due due) {
        due.sentence("or the fault: the PROGRAM before stays");
        int[][] faults = {{WRONG, 8, 0}, {SteadyCompiler.NUMBER, 1, 10, 20, 1, 0}, {SteadyCompiler.LEAK, 7, 21, 1, 0}, {WRONG}, {WRONG, 0, 0},
            Due.join(Due.t(SteadyCompiler.DEEP), Due.times(13, 6, 1), Due.times(14, 0))};
        for (int[] fault : faults) {
            SteadyCompiler x = Edge.secrets();
            due.same("check()", Due.feed(x, 6, 2, 7, 20, 5, 0, 0), 17);
            due.same("check() with a fault", Due.feed(x, java.util.Arrays.copyOfRange(fault, 1, fault.length)), fault[0]);
            due.same("count(0)", x.count(0), 0);
            due.same("count(1)", x.count(1), 17);
            due.same("code(5)", x.code(5), 2);
            due.same("code(10)", x.code(10), 5);
            due.same("run()", x.run(), 22);
            due.same("told(1)", x.told(1), 5);
            due.same("plain()", x.plain(), 5);
            due.same("told(1)", x.told(1), 5);
        }
    }

    private static void place(Due due) {
        due.sentence("The place of the fault of the latest check(); NONE, if it had none, and before any");
        SteadyCompiler x = new SteadyCompiler();
        due.same("place() before any", x.place(), NONE);
        x.token(8);
        due.same("place() before any, with a TEXT", x.place(), NONE);
        due.same("check()", x.check(), WRONG);
        due.same("place()", x.place(), 0);
        due.same("check()", Due.feed(x, 7, 20, 1, 8), WRONG);
        due.same("place()", x.place(), 3);
        x.token(8);
        x.variable(0, true);
        x.table(0, true, 1);
        x.run();
        due.same("place() stays", x.place(), 3);
        due.same("check()", x.check(), WRONG);
        due.same("place() of the latest", x.place(), 0);
        due.same("check() without a fault", Due.feed(x, 0), 1);
        due.same("place() without a fault", x.place(), NONE);
        due.fault(x, SteadyCompiler.LEAK, 3, 7, 20, 1, 7, 21, 0, 0);
        due.fault(x, SteadyCompiler.NUMBER, 2, 7, 21, 10, 0);
        due.fault(x, SteadyCompiler.DEEP, 24, Due.times(13, 6, 1));
        due.fault(WRONG, 400, Due.join(Due.times(133, 6, 1, 0), Due.t(7)));
    }

    private static void code(Due due) {
        due.sentence("Word i of the CODE. 0: there is none");
        SteadyCompiler x = Edge.program(7, 20, 5, 0);
        int[] words = {1, 5, 20, 0, 0, 0};
        for (int i = 0; i < words.length; i++) {
            due.same("code(" + i + ")", x.code(i), words[i]);
        }
        int[] none = {MIN, -2, -1, 4, 5, 399, 400, 1729, 1730, 2047, 2048, 5000, MAX};
        for (int i : none) {
            due.same("code(" + i + ")", x.code(i), 0);
        }
        // Of a longer one before there is nothing left.
        x = Edge.program(7, 20, 5, 7, 20, 6, 7, 20, 7, 0);
        due.same("code(7)", x.code(7), 7);
        Due.feed(x, 7, 20, 5, 0);
        for (int i = 3; i <= 9; i++) {
            due.same("code(" + i + ")", x.code(i), 0);
        }
        x = Edge.program(Due.join(Due.times(133, 6, 20, 0), Due.t(0)));
        due.same("code(1727)", x.code(1727), 18);
        due.same("code(1728)", x.code(1728), 1718);
        due.same("code(1729)", x.code(1729), 0);
        due.same("code(1730)", x.code(1730), 0);
    }

    private static void set(Due due) {
        due.sentence("A variable becomes n: what it was. BAD: no such variable (also as an answer)");
        for (int v = 0; v <= 9; v++) {
            SteadyCompiler x = new SteadyCompiler();
            int was = 0;
            for (int n : ANY) {
                due.same("set(" + v + ", " + n + ")", x.set(v, n), was);
                due.same("get(" + v + ")", x.get(v), n);
                was = n;
            }
        }
        SteadyCompiler x = new SteadyCompiler();
        for (int v : NO_VARIABLES) {
            due.same("set(" + v + ", 1)", x.set(v, 1), BAD);
        }
        for (int v = 0; v <= 9; v++) {
            due.same("get(" + v + ")", x.get(v), 0);
        }
    }

    private static void put(Due due) {
        due.sentence("A number of a TABLE becomes n: what it was. BAD, likewise");
        for (int t = 0; t <= 3; t++) {
            SteadyCompiler x = new SteadyCompiler();
            x.table(t, false, 16);
            int was = 0;
            for (int n : ANY) {
                due.same("put(" + t + ", 0, " + n + ")", x.put(t, 0, n), was);
                due.same("put(" + t + ", 15, " + n + ")", x.put(t, 15, n), was);
                due.same("at(" + t + ", 15)", x.at(t, 15), n);
                was = n;
            }
            due.same("put(" + t + ", 16, 1)", x.put(t, 16, 1), BAD);
        }
        SteadyCompiler x = new SteadyCompiler();
        for (int i : NO_TABLES) {
            due.same("put(" + i + ", 0, 1)", x.put(i, 0, 1), BAD);
            due.same("put(0, " + i + ", 1)", x.put(0, i, 1), BAD);
            due.same("put(3, " + i + ", 1)", x.put(3, i, 1), BAD);
        }
        for (int i = 0; i < 16; i++) {
            due.same("no number is altered by that", x.at(i / 4, i % 4), 0);
        }
    }

    private static void get(Due due) {
        due.sentence("A variable. BAD");
        SteadyCompiler x = new SteadyCompiler();
        x.variable(0, true);
        x.set(0, 5);
        x.set(9, -2);
        due.same("get(0), though it is SECRET", x.get(0), 5);
        due.same("get(9)", x.get(9), -2);
        for (int v : NO_VARIABLES) {
            due.same("get(" + v + ")", x.get(v), BAD);
        }
    }

    private static void at(Due due) {
        due.sentence("A number of a TABLE. BAD");
        SteadyCompiler x = new SteadyCompiler();
        x.table(3, true, 2);
        x.put(3, 1, 5);
        x.put(2, 3, -2);
        due.same("at(3, 1), though it is SECRET", x.at(3, 1), 5);
        due.same("at(3, 2)", x.at(3, 2), BAD);
        due.same("at(2, 3)", x.at(2, 3), -2);
        due.same("at(2, 4)", x.at(2, 4), BAD);
        for (int i : NO_TABLES) {
            due.same("at(" + i + ", 0)", x.at(i, 0), BAD);
            due.same("at(0, " + i + ")", x.at(0, i), BAD);
            due.same("at(" + i + ", " + i + ")", x.at(i, i), BAD);
        }
    }
}
