import java.util.ArrayList;
import java.util.List;
import java.util.Random;

/** Writes programs at random that mostly have no fault, given what is SECRET. */
final class Scribe {
    private final Random random;
    private final boolean[] secretVariables;
    private final boolean[] secretTables;
    private final List<Integer> text = new ArrayList<>();
    private final int most;

    Scribe(Random random, boolean[] secretVariables, boolean[] secretTables, int most) {
        this.random = random;
        this.secretVariables = secretVariables;
        this.secretTables = secretTables;
        this.most = most;
    }

    int[] write() {
        statements(0, false, 1 + random.nextInt(5));
        text.add(0);
        int[] all = new int[text.size()];
        for (int i = 0; i < all.length; i++) {
            all[i] = text.get(i);
        }
        return all;
    }

    private void add(int... tokens) {
        for (int n : tokens) {
            text.add(n);
        }
    }

    private void statements(int depth, boolean hidden, int many) {
        for (int i = 0; i < many && text.size() < most; i++) {
            statement(depth, hidden);
        }
    }

    private int pick(boolean[] kinds, boolean secret) {
        for (int tries = 0; tries < 40; tries++) {
            int i = random.nextInt(kinds.length);
            if (kinds[i] == secret) {
                return i;
            }
        }
        return random.nextInt(kinds.length);
    }

    private void statement(int depth, boolean hidden) {
        int what = random.nextInt(depth < 9 ? 10 : 4);
        boolean secret = hidden || random.nextBoolean();
        if (what < 2) {
            add(1, pick(secretVariables, secret));
            expression(depth + 1, secret, !hidden);
        } else if (what < 4) {
            add(2, pick(secretTables, secret));
            expression(depth + 1, secret, !hidden);
            expression(depth + 1, secret, !hidden);
        } else if (what < 7) {
            add(3);
            boolean byMask = random.nextInt(3) > 0;
            expression(depth + 1, byMask, !hidden);
            block(depth, hidden || byMask);
            if (random.nextBoolean()) {
                add(4);
                block(depth, hidden || byMask);
            }
            add(0);
        } else if (what == 7) {
            add(6, random.nextInt(random.nextInt(4) == 0 ? 21 : 4));
            block(depth, hidden);
            add(0);
        } else if (hidden) {
            add(1, pick(secretVariables, true));
            expression(depth + 1, true, false);
        } else if (what == 8) {
            add(5);
            int v = pick(secretVariables, false);
            add(30, 21, v, 20, random.nextInt(6));
            block(depth, false);
            if (random.nextInt(8) > 0) {
                add(1, v, 22, 21, v, 20, 1);
            }
            add(0);
        } else {
            add(7);
            expression(depth + 1, false, true);
        }
    }

    private void block(int depth, boolean hidden) {
        statements(depth + 1, hidden, random.nextInt(4));
    }

    private void expression(int depth, boolean maySecret, boolean mayDivide) {
        int what = depth > 9 || text.size() > most ? random.nextInt(2) : random.nextInt(9);
        if (what < 2) {
            leaf(maySecret);
        } else if (what == 2) {
            add(35, pick(secretTables, maySecret && random.nextBoolean()));
            expression(depth + 1, maySecret, mayDivide);
        } else if (what == 3) {
            add(32);
            expression(depth + 1, maySecret, mayDivide);
        } else if (what == 4) {
            add(36);
            expression(depth + 1, maySecret, mayDivide);
            expression(depth + 1, maySecret, mayDivide);
            expression(depth + 1, maySecret, mayDivide);
        } else if (what == 5 && mayDivide) {
            add(33 + random.nextInt(2));
            expression(depth + 1, false, true);
            expression(depth + 1, false, true);
        } else {
            add(22 + random.nextInt(10));
            expression(depth + 1, maySecret, mayDivide);
            expression(depth + 1, maySecret, mayDivide);
        }
    }

    private void leaf(boolean maySecret) {
        if (random.nextInt(3) == 0) {
            add(20, number(random));
        } else {
            add(21, pick(secretVariables, maySecret && random.nextInt(3) > 0));
        }
    }

    static int number(Random random) {
        int[] edges = {0, 1, -1, 2, 7, 31, 32, Integer.MIN_VALUE, Integer.MAX_VALUE};
        int kind = random.nextInt(4);
        return kind == 0 ? random.nextInt() : kind == 1 ? random.nextInt(20) - 5 : edges[random.nextInt(edges.length)];
    }
}
