/** Promises 15, 19, 22, 33, 38 and 40 at the very edges of their limits. */
public final class LimitsTest {
    /** Each of the 30 matches of its rule takes 6 steps, and does not hold. */
    private static Bench sixSteps() {
        Bench b = new Bench();
        b.x.sort();
        b.constants("k0 k1 k2 k3 k4 k5 a b c d e z w o");
        b.op("n", 2, RuleForge.BAG, "");
        b.op("s", 1);
        for (int i = 0; i < 5; i++) {
            b.equation("k" + i, "k" + (i + 1));
        }
        b.equation("s(x0)", "x0");
        b.equation("w", Bench.times("s", 18, "a"));
        b.rule("n(x0,x1)", "z", "k0", "z");
        return b;
    }

    /** A term that takes so many steps itself, of which w takes 19. */
    private static String withSteps(int steps) {
        return "n(w," + Bench.times("s", steps - 19, "b") + ",c,d,e)";
    }

    private static void stepsOfSearches() {
        Bench b = sixSteps();
        Bench.due("a match behind 199 steps", b.search(withSteps(25)), 1);
        Bench.due("is used", b.x.isCut(), false);
        Bench.due("a match behind 200 steps", b.search(withSteps(26)), 1);
        Bench.due("is not", b.x.isCut(), true);
    }

    private static String runWithSteps(int steps) {
        Bench b = sixSteps();
        b.rule("o", withSteps(steps));
        b.x.use(1);
        b.x.use(0);
        b.x.both(true);
        return b.run("o");
    }

    private static void stepsOfRuns() {
        Bench.due("a match of a USE behind 199 steps", runWithSteps(25), "-1 o");
        Bench.due("a match of a USE behind 200 steps", runWithSteps(26), "-2 o");
        Bench b = sixSteps();
        b.x.use(0);
        String term = b.form(withSteps(26));
        Bench.due("those of the first term do not count", b.run(term), "-1 " + term);
    }

    private static void matchesOfUses() {
        Bench b = Bench.usual();
        b.op("n", 2, RuleForge.BAG, "");
        b.rule("n(x0,x1,x2)", "o", "g(x0,x1)", "g(n(c,d,e),b)");
        b.rule("n(x0,x1,x2)", "o", "x0", "a");
        b.x.use(0);
        Bench.due("by the match 150", b.run("n(a,b,c,d,e)"), "1 o");
        b.x.use(1);
        Bench.due("by the match 37, at another place", b.run("g(n(b,c,d,e),n(a,b,c))"), "1 g(n(b,c,d,e),o)");
        b.x.use(1);
        Bench.due("not by the match 151", b.run("g(n(b,c,d,e,i),n(a,b,c))"), "-1 g(n(b,c,d,e,i),n(a,b,c))");
        Bench all = Bench.usual();
        all.op("n", 2, RuleForge.BAG, "");
        all.rule("n(x0,x1,x2)", "o", "x0", "a");
        Bench.due("a search goes on by the match 37", all.search("g(n(b,c,d,e),n(a,b,c))"), 2);
        Bench.due("and is not cut", all.x.isCut(), false);
        Bench.due("not by the match 151, either", all.search("g(n(b,c,d,e,i),n(a,b,c))"), 1);
        Bench.due("and is cut", all.x.isCut(), true);
    }

    /** A counter of two digits below 6, which goes down by one with each USE. */
    private static String rounds(int high, int low) {
        Bench b = Bench.usual();
        b.op("t", 2);
        b.equation("t(s(x0),x1)", "g(x0,x1)");
        b.equation("t(a,s(x0))", "g(" + Bench.times("s", 5, "a") + ",x0)");
        b.rule("g(x0,x1)", "t(x0,x1)");
        b.put("g(x0,x1)").x.test();
        b.x.use(0);
        b.x.both(true);
        b.x.many();
        return b.run("g(" + Bench.times("s", low, "a") + "," + Bench.times("s", high, "a") + ")");
    }

    private static void rounds() {
        Bench.due("a round, and one that fails", rounds(0, 0), "1 t(a,a)");
        Bench.due("29 rounds and one that fails", rounds(4, 4), "29 t(a,a)");
        Bench.due("31 rounds, of which the last one would fail", rounds(4, 5).substring(0, 2), "-2");
        Bench b = Bench.usual();
        b.rule("s(x0)", "x0");
        b.x.use(0);
        b.x.many();
        Bench.due("a USE that fails counts, too", b.run(Bench.times("s", 19, "b")), "20 b");
        b.x.idle();
        b.x.many();
        b.x.many();
        Bench.due("what is broken off in a round is so as a whole", b.run("a"), "-2 a");
    }

    private static void stepsOfConditions() {
        Bench b = new Bench();
        b.x.sort();
        b.constants("k0 k1 k2 k3 k4 k5 k6 o");
        b.op("s", 1);
        b.op("g", 2);
        for (int i = 0; i < 6; i++) {
            b.equation("k" + i, "k" + (i + 1));
        }
        b.equation("s(x0)", "x0", "k6", "o");
        String four = "g(g(k0,k0),g(k0,k0))";
        String nine = "s(g(g(" + four + "," + four + "),g(k0,";
        Bench.due("a condition as the step 60", b.reduced(nine + "k1)))"), "60 " + (nine + "k6)))").replace("k0", "k6"));
        Bench.due("a condition as the step 61", b.reduced(nine + "k0)))"), "-2 " + nine + "k0)))");
    }

    private static void depths() {
        Bench b = new Bench();
        b.x.sort();
        b.constants("k0 k1 k2 k3 k4 o");
        for (int i = 0; i < 4; i++) {
            b.equation("k" + i, "o", "o", "k" + (i + 1));
        }
        b.equation("k4", "o");
        Bench.due("3 deep by the second terms", b.reduced("k1"), "7 o");
        Bench.due("4 deep by the second terms", b.reduced("k0"), "-2 k0");
    }

    private static void conditionsTooLarge() {
        Bench b = Bench.usual();
        b.equation("s(x0)", "x0", "h(x0,x0,x0)", "a");
        b.equation("g(x0,x1)", "x0", "a", "h(x0,x0,x0)");
        b.equation("p(x0,x1)", "x0", "r(x1,a)", "a");
        String six = "h(c,m(c,d),c)";
        String seven = "h(c,c,h(c,c,c))";
        Bench.due("a first term of 19", b.reduced("s(" + six + ")"), "1 s(" + six + ")");
        Bench.due("a first term of 22", b.reduced("s(" + seven + ")"), "-2 s(" + seven + ")");
        Bench.due("a second term of 19", b.reduced("g(" + six + ",c)"), "1 g(" + six + ",c)");
        Bench.due("a second term of 22", b.reduced("g(" + seven + ",c)"), "-2 g(" + seven + ",c)");
        Bench.due("5 arguments", b.reduced("p(c,r(b,b,b,b))"), "2 p(c,r(b,b,b,b))");
        Bench.due("6 arguments", b.reduced("p(c,r(b,b,b,b,b))"), "-2 p(c,r(b,b,b,b,b))");
    }

    /** A variable that could not be given a term stays as it is, which must not count as a match. */
    private static void sortsOfTrying() {
        Bench b = new Bench();
        b.x.sort();
        b.x.sort();
        b.x.variable(2, 1);
        b.op("i", 0);
        b.op("m", 2, RuleForge.BAG, "i");
        Bench.due("to itself alone", b.matches("x2", "x2"), "1 1");
        Bench.due("below an operator", b.matches("m(x2,x3)", "m(x2,x3)"), "1 1");
    }

    /** Ahead of the pair that becomes an equation there are 6, which take 4 times 74 or 75 steps. */
    private static int completed(String last) {
        Bench b = new Bench();
        b.x.sort();
        b.constants("k0 k1 k2 k3 k4 k5 k6 a b c");
        b.op("s", 1);
        b.op("g", 2);
        b.op("f", 2);
        String begin = "f(f(k1,k1),f(k1,f(k1,";
        b.equation("g(x0,a)", begin + "k1)))");
        b.equation("g(a,x0)", begin + "k1)))");
        b.equation("g(a,a)", begin + last + ")))");
        b.equation("s(a)", "b");
        b.equation("s(x0)", "c");
        for (int i = 1; i < 6; i++) {
            b.equation("k" + i, "k" + (i + 1));
        }
        b.x.weight(b.number("b"), 0, 2);
        Bench.due("the steps of one side", b.reduced("g(a,a)").substring(0, 2), "26");
        return b.x.complete();
    }

    private static void stepsOfCompletion() {
        Bench.due("a pair behind 296 steps", completed("k2"), 1);
        Bench.due("a pair behind 300 steps", completed("k1"), 0);
    }

    private static void copiesTooLarge() {
        Bench b = Bench.usual();
        b.op("q", 2, RuleForge.ROW, "");
        String six = "r(q(x0,b,c),b,c,d)";
        b.equation("s(x0)", "a", six, "a");
        b.equation("s(x0)", "a", "a", six);
        b.equation("s(x0)", "a", "a", "r(q(x0,b),b,c,d)");
        b.x.view(b.number("q"), b.number("r"));
        Bench.state("a first term of a condition too large", () -> b.x.copy(0));
        Bench.state("a second term of a condition too large", () -> b.x.copy(1));
        Bench.due("one of 5 arguments", b.x.copy(2), 3);
    }

    public static void main(String[] args) {
        stepsOfSearches();
        stepsOfRuns();
        matchesOfUses();
        rounds();
        stepsOfConditions();
        depths();
        conditionsTooLarge();
        sortsOfTrying();
        stepsOfCompletion();
        copiesTooLarge();
        Bench.end();
    }
}
