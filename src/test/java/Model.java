import java.util.ArrayDeque;
import java.util.ArrayList;
import java.util.List;

/** The document written down a second time, as a tree and with the whole Java library, to compare answers with. */
final class Model {
    static final class Fault extends RuntimeException {
        private static final long serialVersionUID = 1;
        final int kind;
        final int place;

        Fault(int kind, int place) {
            super(null, null, false, false);
            this.kind = kind;
            this.place = place;
        }
    }

    /** An S or an E. */
    static final class Node {
        int token;
        int place;
        int word;
        boolean hidden;
        int masks;
        int loops;
        final List<Node> parts = new ArrayList<>();
        List<Node> first = new ArrayList<>();
        List<Node> second;
    }

    final int[] variables = new int[10];
    final boolean[] secretVariables = new boolean[10];
    final int[][] tables = {new int[4], new int[4], new int[4], new int[4]};
    final boolean[] secretTables = new boolean[4];
    List<Integer> text = new ArrayList<>();
    List<Node> program;
    List<Integer> code = new ArrayList<>();
    List<Integer> told = new ArrayList<>();
    List<Integer> trace = new ArrayList<>();
    int faultPlace = -1;
    private int at;
    private int turns;

    int variable(int v, boolean secret) {
        if (v < 0 || v > 9) return -2;
        int was = secretVariables[v] ? 1 : 0;
        secretVariables[v] = secret;
        forget();
        return was;
    }

    int table(int t, boolean secret, int numbers) {
        if (t < 0 || t > 3 || numbers < 1 || numbers > 16) return -2;
        int was = tables[t].length;
        tables[t] = new int[numbers];
        secretTables[t] = secret;
        forget();
        return was;
    }

    private void forget() {
        program = null;
        code = new ArrayList<>();
    }

    int token(int n) {
        if (text.size() == 400) return -3;
        text.add(n);
        return text.size();
    }

    int check() {
        faultPlace = -1;
        at = 0;
        try {
            List<Node> all = new ArrayList<>();
            readAll(all, false, 0);
            if (at != text.size()) throw new Fault(-11, at);
            mark(all, 0, 0);
            leaks(all);
            program = all;
            code = new ArrayList<>();
            for (Node s : all) statement(s);
            code.add(0);
            return code.size();
        } catch (Fault f) {
            faultPlace = f.place;
            return f.kind;
        } finally {
            text = new ArrayList<>();
        }
    }

    private int look() {
        if (at == text.size()) throw new Fault(-11, at);
        return text.get(at);
    }

    private int readAll(List<Node> all, boolean withElse, int depth) {
        while (true) {
            int n = look();
            if (n == 0 || n == 4 && withElse) {
                at++;
                return n;
            }
            if (n < 1 || n > 7 || n == 4) throw new Fault(-11, at);
            all.add(readStatement(depth));
        }
    }

    private Node begin(int depth) {
        if (depth > 11) throw new Fault(-13, at);
        Node node = new Node();
        node.place = at;
        node.token = text.get(at++);
        return node;
    }

    private int readWord(int bound) {
        int n = look();
        if (n < 0 || n > bound) throw new Fault(-12, at);
        at++;
        return n;
    }

    private Node readStatement(int depth) {
        Node s = begin(depth);
        if (s.token == 1) s.word = readWord(9);
        if (s.token == 2) s.word = readWord(3);
        if (s.token == 6) s.word = readWord(20);
        if (s.token != 6) s.parts.add(readExpression(depth + 1));
        if (s.token == 2) s.parts.add(readExpression(depth + 1));
        if (s.token == 3 || s.token == 5 || s.token == 6) {
            if (readAll(s.first, s.token == 3, depth + 1) == 4) {
                s.second = new ArrayList<>();
                readAll(s.second, false, depth + 1);
            }
        }
        return s;
    }

    private Node readExpression(int depth) {
        int n = look();
        if (n < 20 || n > 36) throw new Fault(-11, at);
        Node e = begin(depth);
        if (n == 20) {
            e.word = look();
            at++;
        }
        if (n == 21) e.word = readWord(9);
        if (n == 35) e.word = readWord(3);
        int parts = n <= 21 ? 0 : n == 32 || n == 35 ? 1 : n == 36 ? 3 : 2;
        while (parts-- > 0) e.parts.add(readExpression(depth + 1));
        return e;
    }

    private boolean secret(Node e) {
        if (e.token == 21 && secretVariables[e.word] || e.token == 35 && secretTables[e.word]) return true;
        for (Node part : e.parts) if (secret(part)) return true;
        return false;
    }

    private void mark(List<Node> all, int masks, int loops) {
        for (Node s : all) {
            markOne(s, masks, loops);
            int more = masks + (s.token == 3 && secret(s.parts.get(0)) ? 1 : 0);
            mark(s.first, more, loops + (s.token == 6 ? 1 : 0));
            if (s.second != null) mark(s.second, more, loops);
        }
    }

    private void markOne(Node node, int masks, int loops) {
        node.masks = masks;
        node.hidden = masks > 0;
        node.loops = loops;
        for (Node part : node.parts) markOne(part, masks, loops);
    }

    private void leaks(List<Node> all) {
        for (Node node : all) {
            boolean open = node.token == 5 || node.token == 7 || node.token == 33 || node.token == 34
                || node.token == 1 && !secretVariables[node.word] || node.token == 2 && !secretTables[node.word];
            boolean bad = node.hidden;
            for (Node part : node.parts) bad |= secret(part);
            if (open && bad) throw new Fault(-14, node.place);
            leaks(node.parts);
            leaks(node.first);
            if (node.second != null) leaks(node.second);
        }
    }

    private void emit(int... words) {
        for (int w : words) code.add(w);
    }

    private void expression(Node e) {
        for (Node part : e.parts) expression(part);
        if (e.token == 20) emit(1, e.word);
        else if (e.token == 21) emit(2, e.word);
        else if (e.token == 35) emit(secret(e.parts.get(0)) ? 27 : 21, e.word);
        else if (e.token == 36) emit(17);
        else emit(e.token - 18);
    }

    private void all(List<Node> list) {
        for (Node s : list) statement(s);
    }

    private void statement(Node s) {
        int begin = code.size();
        if (s.token == 6) emit(29, s.loops, 30, s.loops, 1, s.word, 12);
        for (Node part : s.parts) expression(part);
        int hole = code.size() + 1;
        switch (s.token) {
            case 1 -> { if (s.hidden) emit(25, s.masks, s.word); else emit(3, s.word); }
            case 2 -> {
                if (secret(s.parts.get(0))) emit(28, s.masks, s.word);
                else if (s.hidden) emit(26, s.masks, s.word);
                else emit(22, s.word);
            }
            case 3 -> {
                boolean masked = secret(s.parts.get(0));
                if (masked) emit(23, s.masks + 1); else emit(19, -1);
                all(s.first);
                if (s.second != null) {
                    int over = code.size() + 1;
                    if (masked) emit(24, s.masks + 1); else emit(18, -1);
                    if (!masked) code.set(hole, code.size());
                    all(s.second);
                    if (!masked) code.set(over, code.size());
                } else if (!masked) {
                    code.set(hole, code.size());
                }
            }
            case 5 -> {
                emit(19, -1);
                all(s.first);
                emit(18, begin);
                code.set(hole, code.size());
            }
            case 6 -> {
                emit(19, -1);
                all(s.first);
                emit(31, s.loops, 18, begin + 2);
                code.set(hole, code.size());
            }
            default -> emit(20);
        }
    }

    static int reckon(int token, int a, int b) {
        return switch (token) {
            case 22 -> (int) ((long) a + b);
            case 23 -> (int) ((long) a - b);
            case 24 -> (int) ((long) a * b);
            case 25 -> a & b;
            case 26 -> a | b;
            case 27 -> a ^ b;
            case 28 -> (int) ((long) a << (b & 31));
            case 29 -> (int) ((a & 0xFFFFFFFFL) >> (b & 31));
            case 30 -> a < b ? 1 : 0;
            case 31 -> a == b ? 1 : 0;
            case 32 -> a == 0 ? 1 : 0;
            case 33 -> (int) ((long) a / divisor(b));
            case 34 -> (int) ((long) a % divisor(b));
            default -> throw new IllegalStateException();
        };
    }

    private static int divisor(int b) {
        if (b == 0) throw new Fault(-5, 0);
        return b;
    }

    private int spot(int t, int n) {
        return Integer.remainderUnsigned(n, tables[t].length);
    }

    int run() {
        if (program == null) return -2;
        told = new ArrayList<>();
        trace = new ArrayList<>();
        ArrayDeque<Integer> pile = new ArrayDeque<>();
        int[] masks = new int[13];
        int[] counts = new int[12];
        masks[0] = -1;
        int pc = 0;
        int done = 0;
        try {
            while (done < 20000) {
                done++;
                trace.add(pc);
                int op = code.get(pc++);
                if (op == 0) return done;
                if (op >= 4 && op <= 16) {
                    int b = op == 14 ? 0 : pile.pop();
                    pile.push(reckon(op + 18, pile.pop(), b));
                    continue;
                }
                int x = op == 17 || op == 20 ? 0 : code.get(pc++);
                int y = op == 25 || op == 26 || op == 28 ? code.get(pc++) : 0;
                switch (op) {
                    case 1 -> pile.push(x);
                    case 2 -> pile.push(variables[x]);
                    case 3 -> variables[x] = pile.pop();
                    case 17 -> {
                        int c = pile.pop();
                        int b = pile.pop();
                        pile.push(pile.pop() == 0 ? c : b);
                    }
                    case 18 -> pc = x;
                    case 19 -> { if (pile.pop() == 0) pc = x; }
                    case 20 -> told.add(pile.pop());
                    case 21, 27 -> {
                        int p = spot(x, pile.pop());
                        seen(x, p, op == 27);
                        pile.push(tables[x][p]);
                    }
                    case 22 -> lay(x, pile, -1, false);
                    case 23 -> masks[x] = pile.pop() == 0 ? 0 : masks[x - 1];
                    case 24 -> masks[x] = masks[x - 1] & ~masks[x];
                    case 25 -> variables[y] = variables[y] & ~masks[x] | pile.pop() & masks[x];
                    case 26 -> lay(y, pile, masks[x], false);
                    case 28 -> lay(y, pile, masks[x], true);
                    case 29 -> counts[x] = 0;
                    case 30 -> pile.push(counts[x]);
                    case 31 -> counts[x]++;
                    default -> throw new IllegalStateException();
                }
            }
            return -4;
        } catch (Fault f) {
            return f.kind;
        }
    }

    private void lay(int t, ArrayDeque<Integer> pile, int mask, boolean all) {
        int n = pile.pop();
        int p = spot(t, pile.pop());
        seen(t, p, all);
        tables[t][p] = tables[t][p] & ~mask | n & mask;
    }

    private void seen(int t, int p, boolean all) {
        for (int i = 0; i < tables[t].length; i++) if (all || i == p) trace.add(4096 + 16 * t + i);
    }

    int plain() {
        if (program == null) return -2;
        told = new ArrayList<>();
        turns = 0;
        try {
            walk(program);
            return turns;
        } catch (Fault f) {
            return f.kind;
        }
    }

    private void turn() {
        if (turns == 5000) throw new Fault(-4, 0);
        turns++;
    }

    private int value(Node e) {
        int[] v = new int[3];
        for (int i = 0; i < e.parts.size(); i++) v[i] = value(e.parts.get(i));
        return switch (e.token) {
            case 20 -> e.word;
            case 21 -> variables[e.word];
            case 35 -> tables[e.word][spot(e.word, v[0])];
            case 36 -> v[0] != 0 ? v[1] : v[2];
            default -> reckon(e.token, v[0], v[1]);
        };
    }

    private void walk(List<Node> list) {
        for (Node s : list) {
            turn();
            switch (s.token) {
                case 1 -> variables[s.word] = value(s.parts.get(0));
                case 2 -> {
                    int p = spot(s.word, value(s.parts.get(0)));
                    int n = value(s.parts.get(1));
                    tables[s.word][p] = n;
                }
                case 3 -> {
                    if (value(s.parts.get(0)) != 0) walk(s.first);
                    else if (s.second != null) walk(s.second);
                }
                case 5 -> {
                    while (value(s.parts.get(0)) != 0) {
                        walk(s.first);
                        turn();
                    }
                }
                case 6 -> {
                    for (int i = 0; i < s.word; i++) {
                        walk(s.first);
                        turn();
                    }
                }
                default -> told.add(value(s.parts.get(0)));
            }
        }
    }

    long mark() {
        long sum = 0;
        for (int n : trace) sum = 31 * sum + n;
        return sum;
    }
}
