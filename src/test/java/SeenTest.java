/** Promises 14 to 17: what was told, the trace, its mark, and the counts. */
public final class SeenTest {
    public static void main(String[] args) {
        Due due = new Due("SeenTest");
        told(due);
        toldIsOfTheLatest(due);
        trace(due);
        longTrace(due);
        counts(due);
        due.end();
    }

    private static void told(Due due) {
        SteadyCompiler x = new SteadyCompiler();
        // 15 * 20 = 300 are kept, one more is lost.
        Due.feed(x, 6, 15, 6, 20, 7, 21, 0, 1, 0, 22, 21, 0, 20, 1, 0, 0, 7, 20, 99, 0);
        for (int i = 0; i < 2; i++) {
            x.set(0, 1000);
            due.holds("a run", (i == 0 ? x.run() : x.plain()) > 0);
            due.same("count(2)", x.count(2), 301);
            due.same("told(0)", x.told(0), 1000);
            due.same("told(299)", x.told(299), 1299);
            due.same("told(300)", x.told(300), 0);
            due.same("told(-1)", x.told(-1), 0);
            due.same("told(MIN)", x.told(Integer.MIN_VALUE), 0);
            due.same("told(MAX)", x.told(Integer.MAX_VALUE), 0);
        }
    }

    private static void toldIsOfTheLatest(Due due) {
        SteadyCompiler x = new SteadyCompiler();
        Due.feed(x, 7, 20, 5, 7, 20, 6, 0);
        x.run();
        due.same("told(1)", x.told(1), 6);
        Due.feed(x, 7, 20, 4, 0);
        due.same("told(1) stays behind check()", x.told(1), 6);
        x.plain();
        due.same("told(0)", x.told(0), 4);
        due.same("told(1)", x.told(1), 0);
        due.same("count(2)", x.count(2), 1);
        x.variable(0, true);
        due.same("run()", x.run(), SteadyCompiler.BAD);
        due.same("plain()", x.plain(), SteadyCompiler.BAD);
        due.same("told(0) stays without a run", x.told(0), 4);
        due.same("count(3) stays without a run", x.count(3), 5);
    }

    private static void trace(Due due) {
        SteadyCompiler x = new SteadyCompiler();
        due.trace(x);
        x.variable(1, true);
        x.table(1, true, 2);
        x.table(3, true, 16);
        x.set(1, 3);
        Due.feed(x, 7, 35, 0, 20, 6, 2, 2, 20, -1, 20, 5, 1, 1, 35, 1, 21, 1, 2, 1, 21, 1, 20, 7, 0);
        due.same("run()", x.run(), 13);
        due.trace(x, 0, 2, 4098, 4, 5, 7, 9, 4131, 11, 13, 4112, 4113, 15, 17, 19, 21, 4112, 4113, 24);
        Due.feed(x, 1, 1, 35, 3, 21, 1, 0);
        due.same("count(3) stays behind check()", x.count(3), 19);
        x.run();
        due.trace(x, 0, 2, 4144, 4145, 4146, 4147, 4148, 4149, 4150, 4151, 4152, 4153, 4154, 4155, 4156, 4157, 4158, 4159, 4, 6);
        due.same("trace(-1)", x.trace(-1), SteadyCompiler.NONE);
        due.same("trace(MIN)", x.trace(Integer.MIN_VALUE), SteadyCompiler.NONE);
        due.same("trace(MAX)", x.trace(Integer.MAX_VALUE), SteadyCompiler.NONE);
    }

    private static void longTrace(Due due) {
        SteadyCompiler x = new SteadyCompiler();
        x.variable(1, true);
        x.table(0, false, 16);
        Due.feed(x, 5, 20, 1, 1, 1, 35, 0, 21, 1, 0, 0);
        due.same("run()", x.run(), SteadyCompiler.CUT);
        long mark = 0;
        int all = 0;
        int[] words = {0, 2, 4, 6, 8, 10};
        for (int i = 0; i < 20000; i++) {
            int word = words[i % 6];
            mark = 31 * mark + word;
            all++;
            for (int p = 0; word == 6 && p < 16; p++) {
                mark = 31 * mark + 4096 + p;
                all++;
            }
        }
        due.same("count(3)", x.count(3), all);
        due.same("mark()", x.mark(), mark);
        // 5000 is 227 rounds of 22 and 6 numbers more, the last two of them in the TABLE.
        due.same("trace(4999)", x.trace(4999), 4097);
        due.same("trace(5000)", x.trace(5000), SteadyCompiler.NONE);
        Due.feed(x, 0);
        x.run();
        due.trace(x, 0);
    }

    private static void counts(Due due) {
        SteadyCompiler x = new SteadyCompiler();
        x.token(7);
        due.same("count(0)", x.count(0), 1);
        Due.feed(x, 20, 5, 0);
        due.same("count(0)", x.count(0), 0);
        due.same("count(1)", x.count(1), 4);
        x.run();
        due.same("count(2)", x.count(2), 1);
        due.same("count(3)", x.count(3), 3);
        int[] none = {4, -1, Integer.MIN_VALUE, Integer.MAX_VALUE};
        for (int what : none) {
            due.same("count(" + what + ")", x.count(what), SteadyCompiler.BAD);
        }
    }
}
