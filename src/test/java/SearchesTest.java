/** Promises 22 to 33: searches, claims and strategies. */
public final class SearchesTest {
    private static final int ALWAYS = RuleForge.ALWAYS, POSSIBLE = RuleForge.POSSIBLE, SURE = RuleForge.SURE;

    /** The usual one with a BAG n and a ROW q, both without identity. */
    private static Bench usual() {
        Bench b = Bench.usual();
        b.op("n", 2, RuleForge.BAG, "");
        b.op("q", 2, RuleForge.ROW, "");
        return b;
    }

    private static void search() {
        Bench b = usual();
        Bench.state("search() without a top", () -> b.x.search());
        Bench.due("without rules", b.search("g(a,b)"), 1);
        b.rule("a", "b");
        b.rule("b", "c");
        Bench.due("g(a,b)", b.search("g(a,b)"), 6);
        Bench.due("the top is gone", b.x.drop(), 0);
        Bench.due("isCut()", b.x.isCut(), false);
        Bench.due("by rules, then by places", b.states(6), "g(a,b) g(b,b) g(a,c) g(c,b) g(b,c) g(c,c)");
        int[] from = {0, 1, 11, 11, 31};
        for (int i = 1; i < 6; i++) {
            Bench.due("cameBy(" + i + ")", b.x.cameBy(i), from[i - 1]);
        }
        Bench.index("cameBy(0)", () -> b.x.cameBy(0));
        Bench.index("cameBy(6)", () -> b.x.cameBy(6));
        Bench.index("cameBy(-1)", () -> b.x.cameBy(-1));
        Bench.index("state(6)", () -> b.x.state(6));
        Bench.index("state(-1)", () -> b.x.state(-1));
        for (int i = 0; i < 10; i++) {
            Bench.due("state(5)", b.x.state(5), i + 1);
        }
        Bench.state("state(5) with 10", () -> b.x.state(5));
        Bench.index("state(6) with 10, the index first", () -> b.x.state(6));
        Bench.due("in place of the one before", b.search("c"), 1);
        Bench.index("state(1) of that", () -> b.x.state(1));
        Bench.due("by matches", walk(usual(), "n(x0,x1)", "x0", "n(c,d,e)"), "7 n(c,d,e) c d e n(c,d) n(c,e) n(d,e)");
        Bench.due("put on anew", walk(usual(), "a", "m(b,c)", "m(a,d)"), "2 m(a,d) m(b,c,d)");
        Bench.due("left out", walk(usual(), "a", "i", "s(m(a,d))"), "2 s(m(a,d)) s(d)");
        Bench.due("no part of a BAG", walk(usual(), "n(a,b)", "o", "n(a,b,c)"), "1 n(a,b,c)");
        Bench.due("at a variable", walk(usual(), "r(x0,s(x1))", "o", "x4"), "1 x4");
        Bench.due("at a variable, too", walk(usual(), "r(x0,x1)", "o", "x4"), "2 x4 o");
        Bench.due("to itself", walk(usual(), "g(x0,x1)", "g(x1,x0)", "g(a,a)"), "1 g(a,a)");
        reducedStates();
        failures();
    }

    private static String walk(Bench b, String left, String right, String term) {
        b.rule(left, right);
        int count = b.search(term);
        return count + (count > 0 ? " " + b.states(count) : "");
    }

    private static void reducedStates() {
        Bench b = usual();
        b.equation("s(c)", "o");
        b.equation("d", "a");
        b.rule("a", "b", "s(c)", "o");
        b.rule("b", "c");
        b.rule("s(x0)", "e", "x0", "b");
        Bench.due("all are reduced", b.search("s(d)"), 4);
        Bench.due("states", b.states(4), "s(a) s(b) o e");
        Bench.due("cameBy(2)", b.x.cameBy(2), 11);
        Bench.due("cameBy(3), by a condition", b.x.cameBy(3), 12);
        b.equation("e", "e");
        Bench.due("a search that fails", b.search("s(d)"), -2);
        Bench.due("there is none then", b.x.isCut(), false);
        Bench.index("no state", () -> b.x.state(0));
        Bench.due("it fails at its first term", b.search("e"), -2);
        Bench.due("the top is gone then", b.x.drop(), 0);
    }

    private static void failures() {
        Bench b = usual();
        b.rule("a", "s(a)");
        Bench.due("a term that is too large", b.search("a"), -2);
        Bench.due("also a ROW", walk(usual(), "a", "q(a,a)", "q(a,a,a)"), "-2");
        Bench.due("and a right side", walk(usual(), "g(x0,x1)", "h(x0,x0,x1)", "g(" + Bench.times("s", 9, "b") + ",a)"),
                "-2");
        b.rule("b", "a");
        b.search("c");
        b.put("b");
        Bench.due("a failing one after one that did not", b.x.search(), -2);
        b.put("c");
        Bench.due("finds() without a search", b.x.finds(0), -1);
        Bench.state("holds() without a search", () -> b.x.holds(ALWAYS) ? 1 : 0);
    }

    private static void limits() {
        Bench b = new Bench();
        b.x.sort();
        b.constants("j0 j1 j2 j3 j4 k0 k1 k2 k3 k4 k5");
        b.op("g", 2);
        for (int i = 0; i < 3; i++) {
            b.rule("j" + i, "j" + (i + 1));
        }
        for (int i = 0; i < 5; i++) {
            b.rule("k" + i, "k" + (i + 1));
        }
        Bench.due("24 states", b.search("g(j0,k0)"), 24);
        Bench.due("it is not cut", b.x.isCut(), false);
        Bench.due("the last one", b.x.state(23), 1);
        Bench.due("it is", b.top(), "g(j3,k5)");
        Bench.due("it holds", b.holds(SURE, "g(j3,k5)"), true);
        Bench.due("36 states", b.search("g(k0,k0)"), 24);
        Bench.due("it is cut", b.x.isCut(), true);
        b.put("x0");
        Bench.state("holds() of a search that is cut", () -> b.x.holds(POSSIBLE) ? 1 : 0);
        Bench.due("finds() of a search that is cut", b.x.finds(23), 23);
        Bench.due("no more then", b.x.finds(24), -1);
        Bench.due("a new search", b.search("j3"), 1);
        Bench.due("is not cut", b.x.isCut(), false);
        matchesOfSearches();
        stepsOfSearches();
    }

    private static void matchesOfSearches() {
        Bench b = usual();
        b.rule("n(x0,x1,x2)", "o");
        Bench.due("150 matches", b.search("n(a,b,c,d,e)"), 2);
        Bench.due("are not cut", b.x.isCut(), false);
        b.rule("o", "o");
        Bench.due("151 matches", b.search("n(a,b,c,d,e)"), 2);
        Bench.due("are cut", b.x.isCut(), true);
        Bench c = usual();
        c.rule("n(x0,x1,x2)", "o", "a", "b");
        Bench.due("150 matches whose conditions do not hold", c.search("n(a,b,c,d,e)"), 1);
        Bench.due("are not cut, too", c.x.isCut(), false);
        Bench.due("150 matches and one at another place", c.search("g(n(a,b,c,d,e),n(a,b,c))"), 1);
        Bench.due("are cut, too", c.x.isCut(), true);
    }

    /** The condition of the rule takes 1 + so many steps, and there are 30 matches and one more. */
    private static String stepsOf(int steps, String term) {
        Bench b = new Bench();
        b.x.sort();
        b.constants("k0 k1 k2 k3 k4 k5 k6 a b c d e z");
        b.op("n", 2, RuleForge.BAG, "");
        b.op("s", 1);
        for (int i = 0; i < steps; i++) {
            b.equation("k" + i, "k" + (i + 1));
        }
        b.equation("s(x0)", "x0");
        b.rule("n(x0,x1)", "z", "k0", "z");
        return b.search(term) + " " + b.x.isCut();
    }

    private static void stepsOfSearches() {
        Bench.due("180 steps", stepsOf(5, "n(a,b,c,d,e)"), "1 false");
        Bench.due("203 steps before the last match", stepsOf(6, "n(a,b,c,d,e)"), "1 true");
        Bench.due("those of the first term count", stepsOf(5, Bench.times("s", 14, "n(a,b,c,d,e)")), "1 false");
        Bench.due("14 and 174 steps before the last match",
                stepsOf(5, "n(" + Bench.times("s", 14, "a") + ",b,c,d,e)"), "1 false");
        Bench c = usual();
        c.rule("a", "b");
        c.rule("b", "c", "d", "e");
        Bench.due("a rule's use is no step", c.search("a"), 2);
    }

    private static void finds() {
        Bench b = usual();
        b.rule("a", "b");
        b.rule("b", "c");
        b.search("g(a,b)");
        b.put("g(x0,c)");
        Bench.due("finds(0)", b.x.finds(0), 2);
        Bench.due("finds(1)", b.x.finds(1), 4);
        Bench.due("finds(2)", b.x.finds(2), 5);
        Bench.due("finds(3)", b.x.finds(3), -1);
        Bench.due("finds(max)", b.x.finds(Integer.MAX_VALUE), -1);
        Bench.index("finds(-1)", () -> b.x.finds(-1));
        Bench.due("the top stays", b.x.drop(), 1);
        Bench.state("finds(-1) without a top", () -> b.x.finds(-1));
        b.put("m(x0,x1,x2,x3)");
        Bench.state("finds(-1) of four variables", () -> b.x.finds(-1));
        Bench.state("finds(0) of four variables", () -> b.x.finds(0));
        Bench none = usual();
        none.put("x0");
        Bench.due("finds() without a search", none.x.finds(0), -1);
        Bench.index("finds(-1) without a search", () -> none.x.finds(-1));
    }

    private static void holds() {
        Bench b = usual();
        b.rule("a", "b");
        b.rule("a", "c");
        b.rule("b", "d");
        b.rule("c", "d");
        b.rule("d", "e");
        b.search("s(a)");
        Bench.due("ALWAYS s(x0)", b.holds(ALWAYS, "s(x0)"), true);
        Bench.due("ALWAYS s(a)", b.holds(ALWAYS, "s(a)"), false);
        Bench.due("POSSIBLE s(b)", b.holds(POSSIBLE, "s(b)"), true);
        Bench.due("POSSIBLE s(o)", b.holds(POSSIBLE, "s(o)"), false);
        Bench.due("SURE s(a)", b.holds(SURE, "s(a)"), true);
        Bench.due("SURE s(b)", b.holds(SURE, "s(b)"), false);
        Bench.due("SURE s(d)", b.holds(SURE, "s(d)"), true);
        Bench.due("SURE s(e)", b.holds(SURE, "s(e)"), true);
        Bench.due("SURE s(o)", b.holds(SURE, "s(o)"), false);
        Bench.due("the top stays", b.x.drop(), 1);
        Bench.state("holds() without a top", () -> b.x.holds(SURE) ? 1 : 0);
        Bench.argument("holds(3)", () -> b.x.holds(3) ? 1 : 0);
        Bench.argument("holds(-1)", () -> b.x.holds(-1) ? 1 : 0);
        b.put("m(x0,x1,x2,x3)");
        Bench.state("holds() of four variables", () -> b.x.holds(ALWAYS) ? 1 : 0);
        b.rule("e", "d");
        b.rule("b", "o");
        b.search("a");
        Bench.due("SURE d, with an end elsewhere", b.holds(SURE, "d"), false);
        b.search("d");
        Bench.due("SURE e, in a ring", b.holds(SURE, "e"), true);
        b.search("c");
        Bench.due("SURE e, before a ring", b.holds(SURE, "e"), true);
        Bench ring = usual();
        ring.rule("a", "b");
        ring.rule("b", "a");
        ring.rule("b", "c");
        ring.search("a");
        Bench.due("POSSIBLE c, behind a ring", ring.holds(POSSIBLE, "c"), true);
        Bench.due("SURE c, behind a ring", ring.holds(SURE, "c"), false);
        Bench.due("SURE b, in a ring", ring.holds(SURE, "b"), true);
        Bench loop = usual();
        loop.rule("a", "a");
        loop.rule("a", "b");
        loop.search("a");
        Bench.due("SURE b, behind a loop", loop.holds(SURE, "b"), false);
        Bench none = usual();
        none.put("x0");
        Bench.state("holds() without a search", () -> none.x.holds(ALWAYS) ? 1 : 0);
        Bench.argument("holds(3) without a search, the argument first", () -> none.x.holds(3) ? 1 : 0);
    }

    private static void strategies() {
        Bench b = usual();
        b.rule("a", "b");
        b.rule("b", "c");
        Bench.due("use(0)", b.x.use(0), 1);
        Bench.due("USE", b.run("g(a,a)"), "1 g(b,a)");
        b.x.use(0);
        Bench.due("a USE that fails", b.run("c"), "-1 c");
        b.x.idle();
        Bench.due("IDLE", b.run("a"), "0 a");
        b.x.use(0);
        b.x.use(1);
        Bench.due("both(true)", b.x.both(true), 1);
        Bench.due("THEN", b.run("a"), "2 c");
        then(b, 0, 0);
        Bench.due("THEN whose second one fails", b.run("a"), "-1 a");
        then(b, 1, 0);
        Bench.due("THEN whose first one fails", b.run("a"), "-1 a");
        b.x.use(1);
        b.x.use(0);
        Bench.due("both(false)", b.x.both(false), 1);
        Bench.due("ELSE, the second one", b.run("a"), "2 b");
        b.x.use(1);
        b.x.use(0);
        b.x.both(false);
        Bench.due("ELSE, the first one", b.run("g(a,b)"), "1 g(a,c)");
        then(b, 0, 0);
        b.x.use(1);
        b.x.both(false);
        Bench.due("ELSE, the second one on the same", b.run("g(a,b)"), "3 g(a,c)");
        b.x.use(0);
        Bench.due("many()", b.x.many(), 1);
        Bench.due("MANY", b.run("h(a,a,a)"), "4 h(b,b,b)");
        b.x.use(0);
        b.x.many();
        Bench.due("MANY of none", b.run("c"), "1 c");
        b.x.drop();
        b.put("g(x0,c)");
        Bench.due("test()", b.x.test(), 1);
        Bench.due("the pattern is gone", b.x.drop(), 0);
        Bench.due("TEST", b.run("g(b,c)"), "0 g(b,c)");
        b.put("g(x0,c)").x.test();
        Bench.due("a TEST that fails", b.run("g(b,b)"), "-1 g(b,b)");
        orderOfRuns();
        reducedRuns();
    }

    private static void then(Bench b, int first, int second) {
        b.x.use(first);
        b.x.use(second);
        b.x.both(true);
    }

    private static void orderOfRuns() {
        Bench b = usual();
        b.rule("a", "b");
        b.rule("b", "c");
        b.x.use(0);
        b.x.use(1);
        Bench.due("idle() behind", b.x.idle(), 3);
        b.x.drop();
        b.put("a").put("b");
        Bench.due("the last strategy", b.x.run(), 0);
        Bench.due("the one before", b.x.run() + " " + b.top(), "1 c");
        Bench.due("only the top", b.x.drop(), 2);
        Bench.state("run() without a top", () -> b.x.run());
        b.put("a");
        Bench.due("the first one", b.x.run() + " " + b.top(), "1 b");
        Bench.state("run() without a strategy", () -> b.x.run());
        Bench.state("many() without a strategy", () -> b.x.many());
        Bench.state("both() without a strategy", () -> b.x.both(true));
        b.x.idle();
        Bench.state("both() of one", () -> b.x.both(false));
    }

    private static void reducedRuns() {
        Bench b = usual();
        b.equation("d", "a");
        b.equation("s(b)", "o");
        b.equation("e", "e");
        b.rule("a", "b");
        b.rule("b", "e");
        b.x.use(0);
        Bench.due("all are reduced", b.run("s(d)"), "1 o");
        b.x.idle();
        Bench.due("also by IDLE", b.run("s(d)"), "0 s(a)");
        b.x.use(1);
        Bench.due("the top stays as it was", b.run("g(d,d)"), "-1 g(d,d)");
        b.x.use(1);
        Bench.due("reducing fails in a USE", b.run("g(d,b)"), "-2 g(d,b)");
        b.x.idle();
        Bench.due("reducing fails before", b.run("e"), "-2 e");
        Bench.state("the strategy is gone then", () -> b.x.run());
        b.x.use(1);
        b.x.idle();
        b.x.both(false);
        Bench.due("ELSE is no help then", b.run("b"), "-2 b");
    }

    private static void limitsOfStrategies() {
        Bench b = usual();
        b.rule("a", "a");
        b.rule("s(x0)", "x0");
        Bench.index("use(2)", () -> b.x.use(2));
        Bench.index("use(-1)", () -> b.x.use(-1));
        for (int i = 0; i < 8; i++) {
            Bench.due("use(0)", b.x.use(0), i + 1);
        }
        Bench.state("use(0) with 8", () -> b.x.use(0));
        Bench.index("use(2) with 8, the index first", () -> b.x.use(2));
        Bench.state("idle() with 8", () -> b.x.idle());
        b.put("a");
        Bench.state("test() with 8", () -> b.x.test());
        Bench.due("the top stays", b.x.drop(), 1);
        for (int i = 0; i < 7; i++) {
            Bench.due("both()", b.x.both(true), 7 - i);
        }
        Bench.due("8 USEs", b.run("a"), "8 a");
        Bench.state("test() without a top", () -> {
            b.x.drop();
            return b.x.test();
        });
        b.put("m(x0,x1,x2,x3)");
        Bench.state("test() of four variables", () -> b.x.test());
        parts(b);
        uses(b);
    }

    private static void parts(Bench b) {
        b.x.idle();
        for (int i = 0; i < 29; i++) {
            Bench.due("many() to 30 parts", b.x.many(), 1);
        }
        Bench.state("many() of 30 parts", () -> b.x.many());
        b.x.idle();
        Bench.state("both() of 30 and 1 parts", () -> b.x.both(true));
        Bench.due("a run of 1 part", b.run("a"), "0 a");
        Bench.due("a run of 30 parts is broken off", b.run("a"), "-2 a");
        for (int i = 0; i < 2; i++) {
            b.x.idle();
            for (int k = 0; k < 14 - i; k++) {
                b.x.many();
            }
        }
        Bench.due("both() of 15 and 14 parts", b.x.both(true), 1);
        b.run("a");
        for (int i = 0; i < 2; i++) {
            b.x.idle();
            for (int k = 0; k < 14; k++) {
                b.x.many();
            }
        }
        Bench.state("both() of 15 and 15 parts", () -> b.x.both(false));
        b.run("a");
        b.run("a");
        for (int i = 0; i < 8; i++) {
            b.put(i % 2 == 0 ? "s(x0)" : "x0").x.test();
            for (int k = 0; k < 29; k++) {
                b.x.many();
            }
        }
        Bench.due("8 of 30 parts", b.run("a"), "-2 a");
        for (int i = 0; i < 7; i++) {
            b.run("a");
        }
    }

    /** A strategy that takes 10 USEs as often as there is an s. */
    private static void tenUses(Bench b) {
        b.put("s(x0)").x.test();
        b.x.use(1);
        b.x.both(true);
        for (int i = 0; i < 9; i++) {
            b.x.use(0);
            b.x.both(true);
        }
        b.x.many();
    }

    private static void uses(Bench b) {
        tenUses(b);
        Bench.due("30 USEs", b.run("s(s(s(a)))"), "30 a");
        tenUses(b);
        Bench.due("31 USEs", b.run("s(s(s(s(a))))"), "-2 s(s(s(s(a))))");
        b.x.idle();
        b.x.many();
        Bench.due("more than 30 rounds", b.run("a"), "-2 a");
        b.x.use(0);
        b.x.many();
        Bench.due("without end", b.run("a"), "-2 a");
        Bench first = usual();
        first.rule("m(x0,x1,x2)", "x0", "x0", "m(a,b,c,d,e)");
        first.rule("m(x0,x1,x2)", "x1", "x0", "a");
        first.x.use(0);
        Bench.due("behind the first 150 matches", first.run("m(a,b,c,d,e)"), "-1 m(a,b,c,d,e)");
        first.x.use(1);
        Bench.due("among the first 150 matches", first.run("m(a,b,c,d,e)"), "1 b");
        Bench.due("180 steps", stepsOfRun(5), "-1 n(a,b,c,d,e)");
        Bench.due("203 steps before the last match", stepsOfRun(6), "-2 n(a,b,c,d,e)");
    }

    private static String stepsOfRun(int steps) {
        Bench b = new Bench();
        b.x.sort();
        b.constants("k0 k1 k2 k3 k4 k5 k6 a b c d e z");
        b.op("n", 2, RuleForge.BAG, "");
        for (int i = 0; i < steps; i++) {
            b.equation("k" + i, "k" + (i + 1));
        }
        b.rule("n(x0,x1)", "z", "k0", "z");
        b.x.use(0);
        return b.run("n(a,b,c,d,e)");
    }

    public static void main(String[] args) {
        search();
        limits();
        finds();
        holds();
        strategies();
        limitsOfStrategies();
        Bench.end();
    }
}
