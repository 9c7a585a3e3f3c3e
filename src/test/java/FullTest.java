/** The most of all things at once, each of a size of 20: none gets in the way of another one; within 512 calls. */
public final class FullTest {
    private static final int BITS = 5;
    private static final int S = 0, V = 2, G = 4, J = 5, K = 9;

    private final RuleForge x = new RuleForge();

    /** s, t, v and w of the arity 1, g of the arity 2, the constants j0 to j3 and k0 to k5. */
    private FullTest() {
        x.sort();
        for (int o = 0; o < 15; o++) {
            x.operator(o < G ? 1 : o == G ? 2 : 0, RuleForge.FREE, RuleForge.NONE);
            x.declare(o, 0, 0, 0, 0);
        }
        x.term(0);
        keepEnd(0, S);
        x.term(0);
        keepEnd(1, V);
        x.apply(J);
        keepEnd(2, S);
        x.apply(J);
        keepEnd(3, V);
    }

    /** Puts an operator on the top 14 times. */
    private void keepEnd(int slot, int operator) {
        for (int i = 0; i < 14; i++) {
            x.apply(operator);
        }
        x.keep(slot);
    }

    /** Puts a term of a size of 20 on the stack that begins with the bits of a number, as an operator or the next one. */
    private void put(int number, int slot) {
        int operator = slot % 2 == 0 ? S : V;
        x.load(slot);
        for (int bit = 0; bit < BITS; bit++) {
            x.apply(operator + (number >> bit & 1));
        }
    }

    private void check(String what, int number, int slot) {
        int operator = slot % 2 == 0 ? S : V;
        int sum = 0;
        for (int bit = 0; bit < BITS; bit++) {
            sum += x.code(BITS - 1 - bit) == 10 * (operator + (number >> bit & 1)) + 1 ? 1 : 0;
        }
        sum += x.code(BITS) == 10 * operator + 1 ? 1 : 0;
        sum += x.code(18) == 10 * operator + 1 ? 1 : 0;
        sum += x.code(19) == (slot < 2 ? 1000 : 10 * J) ? 1 : 0;
        Bench.due(what + " " + number + " is whole", sum, BITS + 3);
        Bench.index(what + " " + number + " has no more places", () -> x.code(20));
    }

    // ---- equations and rules

    /** Each law has its number on the left, and 20 more of it on the right and twice in its condition. */
    private static FullTest withLaws(boolean hasCondition) {
        FullTest f = new FullTest();
        for (int k = 0; k < 20; k++) {
            f.put(k, 0);
            f.put(31 - k, 1);
            if (hasCondition) {
                f.x.keep(4);
                f.x.load(4);
                f.x.load(4);
                f.x.load(4);
            }
            Bench.due("tell()", f.x.tell(k >= 12, hasCondition), k < 12 ? k : k - 12);
        }
        return f;
    }

    private static void laws() {
        for (int from = 0; from < 20; from += 2) {
            FullTest f = withLaws(true);
            for (int k = from; k < from + 2; k++) {
                f.put(k, 2);
                Bench.due("matching()", f.x.matching(), k < 12 ? 1 << k : 0);
                if (k < 12) {
                    Bench.due("reduce()", f.x.reduce(), 2);
                } else {
                    f.x.use(k - 12);
                    Bench.due("run()", f.x.run(), 1);
                }
                f.check("what comes of the law", 31 - k, 3);
                f.x.drop();
            }
        }
    }

    // ---- slots and the stack

    private static void slotsAndStack() {
        FullTest f = new FullTest();
        for (int k = 4; k < 20; k++) {
            f.put(k, k % 4);
            f.x.keep(k);
        }
        for (int k = 0; k < 9; k++) {
            f.put(31 - k, k % 4);
        }
        f.put(0, 0);
        for (int k = 0; k < 10; k++) {
            f.check("the term", k == 0 ? 0 : 22 + k, k == 0 ? 0 : (9 - k) % 4);
            f.x.keep(k % 4);
        }
        for (int k = 4; k < 20; k++) {
            f.x.load(k);
            f.check("the slot", k, k % 4);
            f.x.drop();
        }
    }

    // ---- states and strategies

    /** 12 equations without conditions, 8 rules, 24 states and 8 TESTs. */
    private static FullTest searched() {
        FullTest f = new FullTest();
        for (int k = 0; k < 12; k++) {
            f.put(16 + k, 0);
            f.put(k, 1);
            f.x.tell(false, false);
        }
        for (int k = 0; k < 9; k++) {
            if (k != 3) {
                f.x.apply(J + k);
                f.x.apply(J + k + 1);
                f.x.tell(true, false);
            }
        }
        for (int k = 0; k < 8; k++) {
            f.put(k, 1);
            f.x.test();
        }
        f.state(0, 0);
        Bench.due("search()", f.x.search(), 24);
        Bench.due("isCut()", f.x.isCut(), false);
        return f;
    }

    private void state(int first, int second) {
        x.apply(J + first);
        x.apply(K + second);
        x.apply(G);
        for (int i = 0; i < 17; i++) {
            x.apply(S);
        }
    }

    private static void states() {
        int all = 0;
        for (int from = 0; from < 24; from += 12) {
            FullTest f = searched();
            for (int state = from; state < from + 12; state++) {
                f.x.state(state);
                int sum = (f.x.code(0) == 1 ? 1 : 0) + (f.x.code(16) == 1 ? 1 : 0) + (f.x.code(17) == 10 * G + 2 ? 1 : 0);
                Bench.due("the state " + state + " is whole", sum, 3);
                all |= 1 << (f.x.code(18) / 10 - J) * 6 + f.x.code(19) / 10 - K;
                f.x.keep(19);
            }
        }
        Bench.due("all are there", all, (1 << 24) - 1);
    }

    private static void strategies() {
        FullTest f = searched();
        for (int k = 7; k >= 0; k--) {
            f.put(k, 3);
            Bench.due("the TEST passes", f.x.run(), 0);
            f.check("the term", k, 3);
            f.x.drop();
        }
        FullTest g = searched();
        for (int k = 7; k >= 0; k--) {
            g.put(k ^ 16, 3);
            Bench.due("the TEST does not", g.x.run(), -1);
            g.x.drop();
        }
    }

    private static void equations() {
        for (int from = 0; from < 12; from += 6) {
            FullTest f = searched();
            for (int k = from; k < from + 6; k++) {
                f.put(16 + k, 2);
                Bench.due("reduce()", f.x.reduce(), 1);
                f.check("what comes of the equation", k, 3);
                f.x.drop();
            }
        }
    }

    public static void main(String[] args) {
        laws();
        slotsAndStack();
        states();
        strategies();
        equations();
        Bench.end();
    }
}
