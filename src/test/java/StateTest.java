/** Promises 1 to 4 and 8 to 11: a new object, declarations, THE TEXT, numbers of variables and TABLES. */
public final class StateTest {
    private static final int[] NO_PLACES = {-1, Integer.MIN_VALUE, Integer.MAX_VALUE};

    public static void main(String[] args) {
        Due due = new Due("StateTest");
        newObject(due);
        variables(due);
        tables(due);
        declarationsDropTheProgram(due);
        text(due);
        numbers(due);
        cells(due);
        due.end();
    }

    private static void newObject(Due due) {
        SteadyCompiler x = new SteadyCompiler();
        due.same("count(0)", x.count(0), 0);
        due.same("count(1)", x.count(1), 0);
        due.same("count(2)", x.count(2), 0);
        due.same("count(3)", x.count(3), 0);
        due.same("place()", x.place(), SteadyCompiler.NONE);
        due.same("code(0)", x.code(0), 0);
        due.same("told(0)", x.told(0), 0);
        due.same("trace(0)", x.trace(0), SteadyCompiler.NONE);
        due.same("mark()", x.mark(), 0);
        due.same("run()", x.run(), SteadyCompiler.BAD);
        due.same("plain()", x.plain(), SteadyCompiler.BAD);
        for (int v = 0; v < 10; v++) {
            due.same("get(" + v + ")", x.get(v), 0);
            due.same("variable(" + v + ")", x.variable(v, false), 0);
        }
        for (int t = 0; t < 4; t++) {
            due.same("at(" + t + ", 3)", x.at(t, 3), 0);
            due.same("at(" + t + ", 4)", x.at(t, 4), SteadyCompiler.BAD);
            due.same("table(" + t + ")", x.table(t, false, 1), 4);
        }
        due.same("tables are public at first: check()", Due.feed(new SteadyCompiler(), 7, 35, 3, 20, 0, 0), 6);
    }

    private static void variables(Due due) {
        SteadyCompiler x = new SteadyCompiler();
        x.set(9, 77);
        due.same("variable(9, true)", x.variable(9, true), 0);
        due.same("variable(9, true) again", x.variable(9, true), 1);
        due.same("variable(9, false)", x.variable(9, false), 1);
        due.same("variable(9, false) again", x.variable(9, false), 0);
        due.same("its number stays", x.get(9), 77);
        due.same("variable(10, true)", x.variable(10, true), SteadyCompiler.BAD);
        for (int v : NO_PLACES) {
            due.same("variable(" + v + ", true)", x.variable(v, true), SteadyCompiler.BAD);
        }
    }

    private static void tables(Due due) {
        SteadyCompiler x = new SteadyCompiler();
        x.put(3, 2, 8);
        due.same("table(3, true, 16)", x.table(3, true, 16), 4);
        due.same("all are 0", x.at(3, 2), 0);
        x.put(3, 15, 9);
        x.put(3, 0, 5);
        due.same("table(3, true, 1)", x.table(3, true, 1), 16);
        due.same("its one number is 0", x.at(3, 0), 0);
        due.same("at(3, 1)", x.at(3, 1), SteadyCompiler.BAD);
        due.same("table(3, false, 16)", x.table(3, false, 16), 1);
        due.same("what was cut off is 0", x.at(3, 15), 0);
        x.put(3, 15, 9);
        int[] noSizes = {0, 17, -1, Integer.MIN_VALUE, Integer.MAX_VALUE};
        for (int n : noSizes) {
            due.same("table(3, true, " + n + ")", x.table(3, true, n), SteadyCompiler.BAD);
        }
        due.same("a wrong size alters nothing", x.at(3, 15), 9);
        due.same("nor does it make it secret", Due.feed(x, 7, 35, 3, 20, 0, 0), 6);
        due.same("table(4, true, 4)", x.table(4, true, 4), SteadyCompiler.BAD);
        for (int t : NO_PLACES) {
            due.same("table(" + t + ", true, 4)", x.table(t, true, 4), SteadyCompiler.BAD);
        }
    }

    private static void declarationsDropTheProgram(Due due) {
        SteadyCompiler x = new SteadyCompiler();
        Due.feed(x, 7, 20, 5, 0);
        x.run();
        x.variable(10, true);
        x.table(0, true, 17);
        x.table(4, true, 1);
        due.same("wrong declarations leave the program", x.count(1), 4);
        due.same("variable(3, false)", x.variable(3, false), 0);
        due.same("count(1) behind variable()", x.count(1), 0);
        due.same("code(0) behind variable()", x.code(0), 0);
        due.same("run() behind variable()", x.run(), SteadyCompiler.BAD);
        due.same("plain() behind variable()", x.plain(), SteadyCompiler.BAD);
        due.same("told(0) stays", x.told(0), 5);
        due.same("count(3) stays", x.count(3), 3);
        Due.feed(x, 0);
        due.same("count(1)", x.count(1), 1);
        x.token(7);
        due.same("table(1, false, 4)", x.table(1, false, 4), 4);
        due.same("run() behind table()", x.run(), SteadyCompiler.BAD);
        due.same("THE TEXT stays", x.count(0), 1);
    }

    private static void text(Due due) {
        SteadyCompiler x = new SteadyCompiler();
        for (int i = 1; i <= 400; i++) {
            due.same("token " + i, x.token(i % 2 == 0 ? Integer.MIN_VALUE : -3), i);
        }
        due.same("token 401", x.token(0), SteadyCompiler.FULL);
        due.same("token 402", x.token(1), SteadyCompiler.FULL);
        due.same("count(0)", x.count(0), 400);
        due.same("check()", x.check(), SteadyCompiler.WRONG);
        due.same("count(0)", x.count(0), 0);
        due.same("token(0)", x.token(0), 1);
    }

    private static void numbers(Due due) {
        SteadyCompiler x = new SteadyCompiler();
        due.same("set(0, 5)", x.set(0, 5), 0);
        due.same("set(0, MIN)", x.set(0, Integer.MIN_VALUE), 5);
        due.same("get(0)", x.get(0), Integer.MIN_VALUE);
        due.same("set(9, -2)", x.set(9, -2), 0);
        due.same("set(9, 1): -2 is an answer, too", x.set(9, 1), -2);
        due.same("get(9)", x.get(9), 1);
        due.same("get(8)", x.get(8), 0);
        due.same("set(10, 1)", x.set(10, 1), SteadyCompiler.BAD);
        due.same("get(10)", x.get(10), SteadyCompiler.BAD);
        for (int v : NO_PLACES) {
            due.same("set(" + v + ", 1)", x.set(v, 1), SteadyCompiler.BAD);
            due.same("get(" + v + ")", x.get(v), SteadyCompiler.BAD);
        }
        Due.feed(x, 0);
        x.set(1, 1);
        x.put(1, 1, 1);
        due.same("set and put leave the program", x.count(1), 1);
    }

    private static void cells(Due due) {
        SteadyCompiler x = new SteadyCompiler();
        x.table(2, true, 16);
        due.same("put(2, 15, 7)", x.put(2, 15, 7), 0);
        due.same("put(2, 15, -2)", x.put(2, 15, -2), 7);
        due.same("put(2, 15, 3)", x.put(2, 15, 3), -2);
        due.same("at(2, 15)", x.at(2, 15), 3);
        due.same("put(3, 0, 4)", x.put(3, 0, 4), 0);
        due.same("at(2, 0)", x.at(2, 0), 0);
        due.same("put(2, 16, 1)", x.put(2, 16, 1), SteadyCompiler.BAD);
        due.same("at(2, 16)", x.at(2, 16), SteadyCompiler.BAD);
        due.same("at(3, 0)", x.at(3, 0), 4);
        due.same("put(4, 0, 1)", x.put(4, 0, 1), SteadyCompiler.BAD);
        due.same("at(4, 0)", x.at(4, 0), SteadyCompiler.BAD);
        due.same("put(1, 4, 1)", x.put(1, 4, 1), SteadyCompiler.BAD);
        for (int i : NO_PLACES) {
            due.same("put(" + i + ", 0, 1)", x.put(i, 0, 1), SteadyCompiler.BAD);
            due.same("put(0, " + i + ", 1)", x.put(0, i, 1), SteadyCompiler.BAD);
            due.same("at(" + i + ", 0)", x.at(i, 0), SteadyCompiler.BAD);
            due.same("at(0, " + i + ")", x.at(0, i), SteadyCompiler.BAD);
        }
    }
}
