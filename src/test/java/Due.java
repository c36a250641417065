import java.util.Arrays;

/** Collects the answers that are not the ones that are due, and ends a test accordingly. */
final class Due {
    private final String test;
    private String sentence = "";
    private int askedOfSentence = 1;
    private int asked;
    private int wrong;

    Due(String test) {
        this.test = test;
    }

    /** What follows is about these words of the document. */
    void sentence(String words) {
        wantSomeAsked();
        sentence = "\"" + words + "\": ";
        askedOfSentence = 0;
    }

    /** And of what these words say about this. */
    void sentence(String words, String part) {
        sentence(words);
        sentence += part + ": ";
    }

    private void wantSomeAsked() {
        if (askedOfSentence == 0) {
            wrong++;
            System.out.println(test + ": " + sentence + "nothing was asked");
        }
    }

    void same(String call, long got, long want) {
        asked++;
        askedOfSentence++;
        if (got != want) {
            wrong++;
            System.out.println(test + ": " + sentence + call + " answered " + got + ", due is " + want);
        }
    }

    void holds(String what, boolean isSo) {
        same(what, isSo ? 1 : 0, 1);
    }

    /** THE TEXT of a new object has this fault at this place, and the object is usable behind that. */
    void fault(int fault, int place, int... tokens) {
        fault(new SteadyCompiler(), fault, place, tokens);
    }

    void fault(SteadyCompiler x, int fault, int place, int... tokens) {
        String text = Arrays.toString(tokens);
        same("check() of " + text, feed(x, tokens), fault);
        same("place() of " + text, x.place(), place);
        same("count(0) behind check() of " + text, x.count(0), 0);
    }

    /** THE TEXT has no fault and just this CODE. */
    void code(SteadyCompiler x, int[] tokens, int... words) {
        String text = Arrays.toString(tokens);
        same("check() of " + text, feed(x, tokens), words.length);
        same("place() of " + text, x.place(), SteadyCompiler.NONE);
        same("count(1) of " + text, x.count(1), words.length);
        for (int i = 0; i < words.length; i++) {
            same("code(" + i + ") of " + text, x.code(i), words[i]);
        }
        same("code() behind the end of " + text, x.code(words.length), 0);
    }

    /** The trace of the latest run is just this. */
    void trace(SteadyCompiler x, int... numbers) {
        long mark = 0;
        for (int i = 0; i < numbers.length; i++) {
            same("trace(" + i + ")", x.trace(i), numbers[i]);
            mark = 31 * mark + numbers[i];
        }
        same("trace() behind the last", x.trace(numbers.length), SteadyCompiler.NONE);
        same("count(3)", x.count(3), numbers.length);
        same("mark()", x.mark(), mark);
    }

    static int feed(SteadyCompiler x, int... tokens) {
        for (int n : tokens) {
            x.token(n);
        }
        return x.check();
    }

    static int[] join(int[]... parts) {
        int[] all = new int[0];
        for (int[] part : parts) {
            int at = all.length;
            all = Arrays.copyOf(all, at + part.length);
            System.arraycopy(part, 0, all, at, part.length);
        }
        return all;
    }

    static int[] times(int n, int... part) {
        int[] all = new int[0];
        for (int i = 0; i < n; i++) {
            all = join(all, part);
        }
        return all;
    }

    static int[] t(int... tokens) {
        return tokens;
    }

    void end() {
        wantSomeAsked();
        System.out.println(test + ": " + asked + " answers, " + wrong + " wrong");
        if (wrong != 0 || asked == 0) {
            System.exit(1);
        }
    }
}
