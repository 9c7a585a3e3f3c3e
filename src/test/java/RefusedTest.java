/**
 * Every call that can be refused: what it throws, which of several exceptions, and that it changes
 * nothing: an object to which it was told shows the same as one to which it was not.
 */
public final class RefusedTest {
    private static final int MIN = Integer.MIN_VALUE, MAX = Integer.MAX_VALUE;
    private static final String INDEX = "IndexOutOfBoundsException";
    private static final String ARGUMENT = "IllegalArgumentException";
    private static final String STATE = "IllegalStateException";
    private static final int NONE = RuleForge.NONE;
    private static final int FREE = RuleForge.FREE, PAIR = RuleForge.PAIR, ROW = RuleForge.ROW, BAG = RuleForge.BAG;

    private interface CallOfOne {
        long on(RuleForge x, int k);
    }

    /** The call throws this, and nothing is changed by it. */
    private static void refused(String exception, String what, Twins.Setup setup, Twins.Call call) {
        Twins.alike(what, exception, setup, call);
    }

    /** The same for each of some numbers. */
    private static void refused(String exception, String what, Twins.Setup setup, int[] numbers, CallOfOne call) {
        for (int k : numbers) {
            refused(exception, what + " of " + k, setup, x -> call.on(x, k));
        }
    }

    /** The numbers right outside of 0 to a number of things, and the least and the greatest. */
    private static int[] outside(int count) {
        return new int[] {MIN, -1, count, MAX};
    }

    // ---- the objects to which calls are told

    private static Bench emptied() {
        Bench b = Bench.rich();
        b.x.drop();
        return b;
    }

    private static Bench with(String... terms) {
        Bench b = emptied();
        for (String term : terms) {
            b.put(term);
        }
        return b;
    }

    private static Bench fullStack() {
        Bench b = Bench.rich();
        for (int i = 3; i < 10; i++) {
            b.put("a");
        }
        return b;
    }

    private static Bench fullSorts() {
        Bench b = Bench.rich();
        for (int i = 3; i < 8; i++) {
            b.x.sort();
        }
        return b;
    }

    private static Bench fullOperators() {
        Bench b = Bench.rich();
        for (int i = 11; i < 16; i++) {
            b.bare("k" + i, 0, FREE, "");
        }
        return b;
    }

    private static Bench fullDeclarations() {
        Bench b = Bench.sorted();
        b.x.declare(b.number("g"), 0, 0, 0, 0);
        b.x.declare(b.number("g"), 2, 2, 1, 0);
        return b;
    }

    private static Bench oneRule() {
        Bench b = Bench.sorted();
        b.rule("a", "b");
        return b;
    }

    private static Bench oneEquation() {
        Bench b = Bench.sorted();
        b.equation("a", "b");
        return b;
    }

    private static Bench fullEquations() {
        Bench b = Bench.rich();
        for (int i = 3; i < 12; i++) {
            b.equation("h(x0,x3,x0)", "x3");
        }
        return b;
    }

    private static Bench fullRules() {
        Bench b = Bench.rich();
        for (int i = 3; i < 8; i++) {
            b.rule("c", "a");
        }
        return b;
    }

    private static Bench fullStrategies() {
        Bench b = Bench.rich();
        for (int i = 2; i < 8; i++) {
            b.x.idle();
        }
        return b;
    }

    private static Bench fourVariables() {
        return with("a", "m(m(x0,x1),m(x2,x3))");
    }

    private static Bench cutSearch() {
        Bench b = with("x0");
        b.search("h(g(a,b),g(a,b),g(a,b))");
        Bench.due("the search is cut", b.x.isCut(), true);
        return b.put("x0");
    }

    // ---- promises 2 to 6

    private static void sorts() {
        refused(STATE, "sort() with 8", RefusedTest::fullSorts, x -> x.sort());
        refused(INDEX, "below(k, 0)", Bench::rich, outside(3), (x, k) -> x.below(k, 0) ? 1 : 0);
        refused(INDEX, "below(0, k)", Bench::rich, outside(3), (x, k) -> x.below(0, k) ? 1 : 0);
        refused(INDEX, "below(k, k), the index first", Bench::rich, outside(3), (x, k) -> x.below(k, k) ? 1 : 0);
        refused(INDEX, "below(8, 0) with 8", RefusedTest::fullSorts, x -> x.below(8, 0) ? 1 : 0);
        refused(INDEX, "below(0, 0) without sorts", Bench::new, x -> x.below(0, 0) ? 1 : 0);
        refused(STATE, "below itself", Bench::rich, new int[] {0, 1, 2}, (x, k) -> x.below(k, k) ? 1 : 0);
        refused(STATE, "below one that is below it", Bench::rich, x -> x.below(1, 0) ? 1 : 0);
        refused(STATE, "below one that is below it by others", () -> {
            Bench b = Bench.rich();
            b.x.below(1, 2);
            return b;
        }, x -> x.below(2, 0) ? 1 : 0);
    }

    private static void variables() {
        refused(INDEX, "variable(0, k)", Bench::sorted, outside(3), (x, k) -> x.variable(0, k));
        refused(INDEX, "variable(0, 0) without sorts", Bench::new, x -> x.variable(0, 0));
        refused(INDEX, "variable(k, k), the index first", Bench::sorted, outside(10), (x, k) -> x.variable(k, k));
        refused(INDEX, "variable(0, k) with equations", Bench::rich, outside(3), (x, k) -> x.variable(0, k));
        refused(ARGUMENT, "variable(k, 0)", Bench::sorted, outside(10), (x, k) -> x.variable(k, 0));
        refused(ARGUMENT, "variable(k, 0) with equations", Bench::rich, outside(10), (x, k) -> x.variable(k, 0));
        refused(STATE, "variable() with an equation", RefusedTest::oneEquation, x -> x.variable(0, 1));
        refused(STATE, "variable() with a rule", RefusedTest::oneRule, x -> x.variable(0, 1));
    }

    private static void operators() {
        int[] noIdentity = {MIN, -2, 11, MAX};
        refused(INDEX, "operator(2, ROW, k)", Bench::rich, noIdentity, (x, k) -> x.operator(2, ROW, k));
        refused(INDEX, "operator(4, 4, k), the index first", Bench::rich, noIdentity, (x, k) -> x.operator(4, 4, k));
        refused(INDEX, "operator(2, ROW, 16) with 16", RefusedTest::fullOperators, x -> x.operator(2, ROW, 16));
        refused(INDEX, "operator(2, BAG, 0) without operators", Bench::new, x -> x.operator(2, BAG, 0));
        refused(ARGUMENT, "operator(k, FREE)", Bench::rich, outside(4), (x, k) -> x.operator(k, FREE, NONE));
        refused(ARGUMENT, "operator(2, k)", Bench::rich, outside(4), (x, k) -> x.operator(2, k, NONE));
        int[] others = {0, 1, 3};
        refused(ARGUMENT, "operator(k, PAIR)", Bench::rich, others, (x, k) -> x.operator(k, PAIR, NONE));
        refused(ARGUMENT, "operator(k, ROW)", Bench::rich, others, (x, k) -> x.operator(k, ROW, NONE));
        refused(ARGUMENT, "operator(k, BAG)", Bench::rich, others, (x, k) -> x.operator(k, BAG, NONE));
        refused(ARGUMENT, "operator(k, ROW, 0)", Bench::rich, others, (x, k) -> x.operator(k, ROW, 0));
        refused(ARGUMENT, "a FREE one with an identity", Bench::rich, x -> x.operator(2, FREE, 0));
        refused(ARGUMENT, "a constant with an identity", Bench::rich, x -> x.operator(0, FREE, 0));
        refused(ARGUMENT, "a PAIR with an identity", Bench::rich, x -> x.operator(2, PAIR, 0));
        int[] notConstant = {4, 5, 6, 7, 8, 9, 10};
        refused(ARGUMENT, "a ROW, its identity", Bench::rich, notConstant, (x, k) -> x.operator(2, ROW, k));
        refused(ARGUMENT, "a BAG, its identity", Bench::rich, notConstant, (x, k) -> x.operator(2, BAG, k));
        refused(ARGUMENT, "with 16, the argument first", RefusedTest::fullOperators, x -> x.operator(-1, 0, NONE));
        refused(STATE, "operator() with 16", RefusedTest::fullOperators, x -> x.operator(0, FREE, NONE));
        refused(STATE, "operator() with 16, a BAG", RefusedTest::fullOperators, x -> x.operator(2, BAG, 15));
    }

    private static void declarations() {
        int s = Bench.sorted().number("s"), g = Bench.sorted().number("g"), h = Bench.sorted().number("h");
        refused(INDEX, "declare(k)", Bench::sorted, outside(11), (x, k) -> x.declare(k, 0, 0, 0, 0));
        refused(INDEX, "declare(), the result", Bench::sorted, outside(3), (x, k) -> x.declare(0, k, 0, 0, 0));
        refused(INDEX, "declare() of one, the first", Bench::sorted, outside(3), (x, k) -> x.declare(s, 0, k, 0, 0));
        refused(INDEX, "declare() of two, the first", Bench::sorted, outside(3), (x, k) -> x.declare(g, 0, k, 0, 0));
        refused(INDEX, "declare() of two, the second", Bench::sorted, outside(3), (x, k) -> x.declare(g, 0, 0, k, 0));
        refused(INDEX, "declare() of three, the first", Bench::sorted, outside(3), (x, k) -> x.declare(h, 0, k, 0, 0));
        refused(INDEX, "declare() of three, the second", Bench::sorted, outside(3), (x, k) -> x.declare(h, 0, 0, k, 0));
        refused(INDEX, "declare() of three, the third", Bench::sorted, outside(3), (x, k) -> x.declare(h, 0, 0, 0, k));
        refused(INDEX, "declare() with 3, the index first", RefusedTest::fullDeclarations, x -> x.declare(g, 0, 0, 3, 0));
        refused(INDEX, "declare() with equations, the index first", Bench::rich, x -> x.declare(g, 0, 3, 0, 0));
        refused(STATE, "declare() with 3", RefusedTest::fullDeclarations, x -> x.declare(g, 0, 0, 0, 0));
        refused(STATE, "declare() with an equation", RefusedTest::oneEquation, x -> x.declare(g, 0, 0, 0, 0));
        refused(STATE, "declare() with a rule", RefusedTest::oneRule, x -> x.declare(g, 0, 0, 0, 0));
    }

    // ---- promises 7 to 13

    private static void terms() {
        refused(ARGUMENT, "term(k)", Bench::rich, outside(10), (x, k) -> x.term(k));
        refused(ARGUMENT, "term(k) with 10", RefusedTest::fullStack, outside(10), (x, k) -> x.term(k));
        refused(STATE, "term(0) with 10", RefusedTest::fullStack, x -> x.term(0));
        refused(INDEX, "apply(k)", Bench::rich, outside(11), (x, k) -> x.apply(k));
        refused(INDEX, "apply(k) without terms", RefusedTest::emptied, outside(11), (x, k) -> x.apply(k));
        refused(INDEX, "apply(k) with 10", RefusedTest::fullStack, outside(11), (x, k) -> x.apply(k));
        refused(INDEX, "apply(0) without operators", Bench::new, x -> x.apply(0));
        refused(INDEX, "apply(16) with 16", RefusedTest::fullOperators, x -> x.apply(16));
        Bench b = Bench.sorted();
        int s = b.number("s"), g = b.number("g"), h = b.number("h"), r = b.number("r"), m = b.number("m");
        refused(STATE, "one of none", () -> with(), x -> x.apply(s));
        refused(STATE, "two of none", () -> with(), x -> x.apply(g));
        refused(STATE, "two of one", () -> with("a"), x -> x.apply(g));
        refused(STATE, "two of one, a BAG", () -> with("m(a,b)"), x -> x.apply(m));
        refused(STATE, "three of two", () -> with("a", "b"), x -> x.apply(h));
        refused(STATE, "an eleventh term", RefusedTest::fullStack, x -> x.apply(0));
        String large = Bench.times("s", 18, "a");
        refused(STATE, "a size of 21", () -> with("a", "s(" + large + ")"), x -> x.apply(s));
        refused(STATE, "a size of 21 by two", () -> with(large, "a"), x -> x.apply(g));
        refused(STATE, "a size of 21 by a BAG", () -> with(large, "a"), x -> x.apply(m));
        refused(STATE, "a size of 41", () -> with("s(" + large + ")", "s(" + large + ")"), x -> x.apply(g));
        refused(STATE, "6 arguments of a ROW", () -> with("r(a,b,c,a,b)", "c"), x -> x.apply(r));
        refused(STATE, "6 arguments of a BAG", () -> with("m(a,b,c)", "m(a,b,c)"), x -> x.apply(m));
        refused(STATE, "10 arguments of a BAG", () -> with("m(a,b,c,a,b)", "m(a,b,c,a,b)"), x -> x.apply(m));
    }

    private static void slots() {
        refused(ARGUMENT, "keep(k)", Bench::rich, outside(20), (x, k) -> x.keep(k));
        refused(ARGUMENT, "keep(k) without terms", RefusedTest::emptied, outside(20), (x, k) -> x.keep(k));
        refused(STATE, "keep(k) without terms", RefusedTest::emptied, new int[] {0, 1, 19}, (x, k) -> x.keep(k));
        refused(ARGUMENT, "load(k)", Bench::rich, outside(20), (x, k) -> x.load(k));
        refused(ARGUMENT, "load(k) with 10", RefusedTest::fullStack, outside(20), (x, k) -> x.load(k));
        refused(STATE, "load(k) of nothing", Bench::rich, new int[] {1, 10, 18}, (x, k) -> x.load(k));
        refused(STATE, "load(k) with 10", RefusedTest::fullStack, new int[] {0, 1, 19}, (x, k) -> x.load(k));
    }

    private static void tops() {
        refused(STATE, "sortOf() without a top", RefusedTest::emptied, x -> x.sortOf());
        refused(STATE, "code(k) without a top", RefusedTest::emptied, new int[] {MIN, -1, 0, MAX}, (x, k) -> x.code(k));
        refused(INDEX, "code(k) of 1", () -> with("a"), outside(1), (x, k) -> x.code(k));
        refused(INDEX, "code(k) of 20", () -> with(Bench.times("s", 19, "a")), outside(20), (x, k) -> x.code(k));
        refused(INDEX, "code(k) of 4, the terms below do not count", () -> with("g(a,b)", "m(a,b,c)"), outside(4),
                (x, k) -> x.code(k));
    }

    // ---- promises 14 to 21

    private static void matches() {
        Twins.Setup four = () -> with("m(m(x0,x1),m(x2,x3))", "a");
        refused(STATE, "matches() of none", RefusedTest::emptied, x -> x.matches());
        refused(STATE, "matches() of one", () -> with("x0"), x -> x.matches());
        refused(STATE, "matches() of four variables", four, x -> x.matches());
        refused(STATE, "matchesAnew() of none", RefusedTest::emptied, x -> x.matchesAnew());
        refused(STATE, "matchesAnew() of one", () -> with("x0"), x -> x.matchesAnew());
        refused(STATE, "matchesAnew() of four variables", four, x -> x.matchesAnew());
        Twins.Setup six = () -> with("n(x0,x3)", "n(a,b,c)");
        refused(INDEX, "match(k, 0) of 6", six, outside(6), (x, k) -> x.match(k, 0));
        refused(INDEX, "match(k, 3) of 6", six, outside(6), (x, k) -> x.match(k, 3));
        refused(INDEX, "match(0, k), not in the pattern", six, new int[] {MIN, -1, 1, 2, 4, 9, 10, 32, 35, MAX},
                (x, k) -> x.match(0, k));
        refused(INDEX, "match(0, k) without variables", () -> with("a", "a"), outside(0), (x, k) -> x.match(0, k));
        refused(INDEX, "match(k, 0) of no match", () -> with("s(x0)", "g(a,b)"), outside(0), (x, k) -> x.match(k, 0));
        refused(STATE, "match(k, k) of none", RefusedTest::emptied, outside(0), (x, k) -> x.match(k, k));
        refused(STATE, "match(k, k) of one", () -> with("x0"), outside(0), (x, k) -> x.match(k, k));
        refused(STATE, "match(k, k) of four variables", four, outside(0), (x, k) -> x.match(k, k));
        Twins.Setup full = RefusedTest::fullWithMatches;
        refused(STATE, "match(k, 0) with 10", full, new int[] {0, 5}, (x, k) -> x.match(k, 0));
        refused(INDEX, "match(k, 0) with 10, the index first", full, outside(6), (x, k) -> x.match(k, 0));
        refused(INDEX, "match(0, 1) with 10, the index first", full, x -> x.match(0, 1));
    }

    private static Bench fullWithMatches() {
        Bench b = with("n(a,b,c)");
        b.x.keep(1);
        for (int i = 0; i < 8; i++) {
            b.put("a");
        }
        b.put("n(x0,x3)").x.load(1);
        return b;
    }

    private static void tellings() {
        for (int k = 0; k < 2; k++) {
            boolean isRule = k == 1;
            refused(STATE, "tell() of none", RefusedTest::emptied, x -> x.tell(isRule, false));
            refused(STATE, "tell() of one", () -> with("s(x0)"), x -> x.tell(isRule, false));
            refused(STATE, "a condition of none", RefusedTest::emptied, x -> x.tell(isRule, true));
            refused(STATE, "a condition of two", () -> with("s(x0)", "x0"), x -> x.tell(isRule, true));
            refused(STATE, "a condition of three", () -> with("s(x0)", "x0", "a"), x -> x.tell(isRule, true));
            refused(STATE, "a variable on the left", () -> with("s(x0)", "x0", "x0"), x -> x.tell(isRule, false));
            refused(STATE, "a variable on the left, with a condition", () -> with("x0", "x0", "x0", "x0"),
                    x -> x.tell(isRule, true));
            refused(STATE, "four variables on the left", () -> with("m(x0,x1,x2,x3)", "a"), x -> x.tell(isRule, false));
            refused(STATE, "another one on the right", () -> with("s(x0)", "x1"), x -> x.tell(isRule, false));
            refused(STATE, "another one below on the right", () -> with("a", "s(x0)"), x -> x.tell(isRule, false));
            refused(STATE, "another one on the right, with a condition", () -> with("s(x0)", "x1", "x0", "x0"),
                    x -> x.tell(isRule, true));
            refused(STATE, "another one in the first of the condition", () -> with("s(x0)", "x0", "x1", "x0"),
                    x -> x.tell(isRule, true));
            refused(STATE, "another one in the second of the condition", () -> with("s(x0)", "x0", "x0", "g(x0,x9)"),
                    x -> x.tell(isRule, true));
        }
        refused(STATE, "a thirteenth equation", () -> withSides(fullEquations()), x -> x.tell(false, false));
        refused(STATE, "a thirteenth equation, with a condition", () -> withSides(fullEquations()), x -> x.tell(false, true));
        refused(STATE, "a ninth rule", () -> withSides(fullRules()), x -> x.tell(true, false));
        refused(STATE, "a ninth rule, with a condition", () -> withSides(fullRules()), x -> x.tell(true, true));
    }

    private static Bench withSides(Bench b) {
        b.x.drop();
        return b.put("a").put("s(x0)").put("x0").put("s(x0)").put("s(a)");
    }

    private static void reductions() {
        refused(STATE, "reduce() without a top", RefusedTest::emptied, x -> x.reduce());
        refused(STATE, "fitting() without a top", RefusedTest::emptied, x -> x.fitting());
        refused(STATE, "matching() without a top", RefusedTest::emptied, x -> x.matching());
    }

    // ---- promises 22 to 33

    private static void searches() {
        refused(STATE, "search() without a top", RefusedTest::emptied, x -> x.search());
        int states = Bench.rich().search("g(a,b)");
        refused(INDEX, "state(k)", Bench::rich, outside(states), (x, k) -> x.state(k));
        refused(INDEX, "state(k) with 10, the index first", RefusedTest::fullStack, outside(states), (x, k) -> x.state(k));
        refused(INDEX, "state(k) without a search", Bench::sorted, outside(0), (x, k) -> x.state(k));
        refused(INDEX, "state(0) after one that failed", RefusedTest::failedSearch, x -> x.state(0));
        refused(STATE, "state(k) with 10", RefusedTest::fullStack, new int[] {0, states - 1}, (x, k) -> x.state(k));
        refused(INDEX, "cameBy(k)", Bench::rich, new int[] {MIN, -1, 0, states, MAX}, (x, k) -> x.cameBy(k));
        refused(INDEX, "cameBy(k) without a search", Bench::sorted, new int[] {MIN, -1, 0, 1, MAX}, (x, k) -> x.cameBy(k));
        refused(INDEX, "cameBy(1) after one that failed", RefusedTest::failedSearch, x -> x.cameBy(1));
        refused(INDEX, "finds(k)", () -> with("x0"), new int[] {MIN, -1}, (x, k) -> x.finds(k));
        refused(INDEX, "finds(k) without a search", () -> Bench.sorted().put("x0"), new int[] {MIN, -1}, (x, k) -> x.finds(k));
        refused(STATE, "finds(k) without a top", RefusedTest::emptied, new int[] {MIN, -1, 0, MAX}, (x, k) -> x.finds(k));
        refused(STATE, "finds(k) of four variables", RefusedTest::fourVariables, new int[] {MIN, -1, 0, MAX},
                (x, k) -> x.finds(k));
    }

    private static Bench failedSearch() {
        Bench b = emptied();
        b.equation("s(c)", "s(c)");
        b.search("s(c)");
        return b.put("x0");
    }

    private static void claims() {
        int[] all = {RuleForge.ALWAYS, RuleForge.POSSIBLE, RuleForge.SURE};
        refused(ARGUMENT, "holds(k)", () -> with("x0"), outside(3), (x, k) -> x.holds(k) ? 1 : 0);
        refused(ARGUMENT, "holds(k) without a top", RefusedTest::emptied, outside(3), (x, k) -> x.holds(k) ? 1 : 0);
        refused(ARGUMENT, "holds(k) without a search", Bench::sorted, outside(3), (x, k) -> x.holds(k) ? 1 : 0);
        refused(STATE, "holds(k) without a top", RefusedTest::emptied, all, (x, k) -> x.holds(k) ? 1 : 0);
        refused(STATE, "holds(k) of four variables", RefusedTest::fourVariables, all, (x, k) -> x.holds(k) ? 1 : 0);
        refused(STATE, "holds(k) without a search", () -> Bench.sorted().put("x0"), all, (x, k) -> x.holds(k) ? 1 : 0);
        refused(STATE, "holds(k) after one that failed", RefusedTest::failedSearch, all, (x, k) -> x.holds(k) ? 1 : 0);
        refused(STATE, "holds(k) of one that is cut", RefusedTest::cutSearch, all, (x, k) -> x.holds(k) ? 1 : 0);
    }

    private static void strategies() {
        refused(INDEX, "use(k)", Bench::rich, outside(3), (x, k) -> x.use(k));
        refused(INDEX, "use(k) with 8 rules", RefusedTest::fullRules, outside(8), (x, k) -> x.use(k));
        refused(INDEX, "use(k) without rules", Bench::sorted, outside(0), (x, k) -> x.use(k));
        refused(INDEX, "use(k) with 8, the index first", RefusedTest::fullStrategies, outside(3), (x, k) -> x.use(k));
        refused(STATE, "use(k) with 8", RefusedTest::fullStrategies, new int[] {0, 2}, (x, k) -> x.use(k));
        refused(STATE, "idle() with 8", RefusedTest::fullStrategies, x -> x.idle());
        refused(STATE, "test() with 8", RefusedTest::fullStrategies, x -> x.test());
        refused(STATE, "test() without a top", RefusedTest::emptied, x -> x.test());
        refused(STATE, "test() of four variables", RefusedTest::fourVariables, x -> x.test());
        for (int k = 0; k < 2; k++) {
            boolean isThen = k == 1;
            refused(STATE, "both() of none", Bench::sorted, x -> x.both(isThen));
            refused(STATE, "both() of one", RefusedTest::oneStrategy, x -> x.both(isThen));
            refused(STATE, "both() of 15 and 15 parts", () -> parts(15, 15), x -> x.both(isThen));
            refused(STATE, "both() of 30 and 1 parts", () -> parts(30, 1), x -> x.both(isThen));
            refused(STATE, "both() of 1 and 29 parts", () -> parts(1, 29), x -> x.both(isThen));
            refused(STATE, "both() of 30 and 30 parts", () -> parts(30, 30), x -> x.both(isThen));
        }
        refused(STATE, "many() of none", Bench::sorted, x -> x.many());
        refused(STATE, "many() of 30 parts", () -> parts(1, 30), x -> x.many());
        refused(STATE, "run() without a strategy", () -> Bench.sorted().put("a"), x -> x.run());
        refused(STATE, "run() without a top", RefusedTest::emptied, x -> x.run());
    }

    private static Bench oneStrategy() {
        Bench b = Bench.sorted();
        b.x.idle();
        return b;
    }

    /** Two strategies of so many parts each, which try one rule after the other. */
    private static Bench parts(int first, int second) {
        Bench b = emptied();
        for (int count : new int[] {first, second}) {
            b.x.use(count % 3);
            for (int k = 1; k < count; k++) {
                b.x.many();
            }
        }
        return b;
    }

    // ---- promises 34 to 40

    private static void pairs() {
        int pairs = Bench.rich().x.pairs();
        refused(INDEX, "joins(k)", Bench::rich, outside(pairs), (x, k) -> x.joins(k));
        refused(INDEX, "joins(k) of 60", RefusedTest::fullEquations, outside(60), (x, k) -> x.joins(k));
        refused(INDEX, "joins(k) without equations", Bench::sorted, outside(0), (x, k) -> x.joins(k));
        refused(INDEX, "descends(k)", Bench::rich, outside(3), (x, k) -> x.descends(k) ? 1 : 0);
        refused(INDEX, "descends(k) with 12", RefusedTest::fullEquations, outside(12), (x, k) -> x.descends(k) ? 1 : 0);
        refused(INDEX, "descends(k) without equations", Bench::sorted, outside(0), (x, k) -> x.descends(k) ? 1 : 0);
    }

    private static void weights() {
        int s = Bench.sorted().number("s"), h = Bench.sorted().number("h");
        refused(INDEX, "weight(k, 0, 1)", Bench::rich, outside(11), (x, k) -> x.weight(k, 0, 1));
        refused(INDEX, "weight(k, 0, 99), the index first", Bench::rich, outside(11), (x, k) -> x.weight(k, 0, 99));
        refused(INDEX, "a place of a constant", Bench::rich, outside(1), (x, k) -> x.weight(0, k, 2));
        refused(INDEX, "a place of s", Bench::rich, outside(2), (x, k) -> x.weight(s, k, 2));
        refused(INDEX, "a place of h", Bench::rich, outside(4), (x, k) -> x.weight(h, k, 2));
        refused(INDEX, "a place of h, the index first", Bench::rich, outside(4), (x, k) -> x.weight(h, k, 99));
        refused(ARGUMENT, "its own weight", Bench::rich, outside(10), (x, k) -> x.weight(s, 0, k));
        int[] ofArguments = {MIN, -1, 0, 4, MAX};
        refused(ARGUMENT, "the weight of an argument", Bench::rich, ofArguments, (x, k) -> x.weight(s, 1, k));
        refused(ARGUMENT, "the weight of a third argument", Bench::rich, ofArguments, (x, k) -> x.weight(h, 3, k));
    }

    private static void copies() {
        Bench b = Bench.sorted();
        int s = b.number("s"), g = b.number("g"), p = b.number("p"), r = b.number("r"), m = b.number("m");
        refused(INDEX, "view(k, 0)", Bench::rich, outside(11), (x, k) -> x.view(k, 0));
        refused(INDEX, "view(0, k)", Bench::rich, outside(11), (x, k) -> x.view(0, k));
        refused(ARGUMENT, "another arity", Bench::rich, x -> x.view(s, 0));
        refused(ARGUMENT, "another arity, the other way", Bench::rich, x -> x.view(0, s));
        refused(ARGUMENT, "a PAIR for a FREE one", Bench::rich, x -> x.view(g, p));
        refused(ARGUMENT, "a ROW for a PAIR", Bench::rich, x -> x.view(p, r));
        refused(ARGUMENT, "a BAG for a ROW", Bench::rich, x -> x.view(r, m));
        refused(ARGUMENT, "a ROW for a BAG", Bench::rich, x -> x.view(m, r));
        refused(INDEX, "copy(k)", Bench::rich, outside(3), (x, k) -> x.copy(k));
        refused(INDEX, "copy(k) without equations", Bench::sorted, outside(0), (x, k) -> x.copy(k));
        refused(INDEX, "copy(k) with 12, the index first", RefusedTest::fullEquations, outside(12), (x, k) -> x.copy(k));
        refused(STATE, "copy(k) with 12", RefusedTest::fullEquations, new int[] {0, 11}, (x, k) -> x.copy(k));
        refused(STATE, "the left side would be a variable", () -> viewed("b", "i", "m(x0,b)", "a"), x -> x.copy(3));
        String four = "m(n(a,b),b,c,a)";
        refused(STATE, "the left side too large", () -> viewed("n", "m", "m(n(a,b),b,c,a,s(x0))", "a"), x -> x.copy(3));
        refused(STATE, "the right side too large", () -> viewed("n", "m", "s(x0)", "m(n(x0,b),b,c,a,a)"), x -> x.copy(3));
        refused(STATE, "the first of the condition too large", () -> viewed("n", "m", "s(x0)", "a", "m(n(x0,b),b,c,a,a)", four),
                x -> x.copy(3));
        refused(STATE, "the second of the condition too large", () -> viewed("n", "m", "s(x0)", "a", four, "m(n(x0,b),b,c,a,a)"),
                x -> x.copy(3));
    }

    /** The rich one, in which the one operator is viewed as the other one, with a fourth equation. */
    private static Bench viewed(String operator, String other, String... sides) {
        Bench b = Bench.rich();
        b.x.drop();
        b.x.view(b.number(operator), b.number(other));
        for (String side : sides) {
            b.put(side);
        }
        b.x.tell(false, sides.length == 4);
        return b;
    }

    public static void main(String[] args) {
        sorts();
        variables();
        operators();
        declarations();
        terms();
        slots();
        tops();
        matches();
        tellings();
        reductions();
        searches();
        claims();
        strategies();
        pairs();
        weights();
        copies();
        Bench.end();
    }
}
