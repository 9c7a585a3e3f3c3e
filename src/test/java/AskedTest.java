/** The calls that only ask, and those that could not do what they were told: what is shown stays the same. */
public final class AskedTest {
    private static Bench with(String... terms) {
        Bench b = Bench.rich();
        b.x.drop();
        for (String term : terms) {
            b.put(term);
        }
        return b;
    }

    private static Bench cut() {
        Bench b = with();
        b.search("h(g(a,b),g(a,b),g(a,b))");
        return b.put("a").put("g(x0,x1)");
    }

    private static void asked() {
        Twins.alike("sortOf()", "0", Bench::rich, x -> x.sortOf());
        Twins.alike("code()", "52", Bench::rich, x -> x.code(0));
        Twins.alike("code() of the last place", "10", Bench::rich, x -> x.code(4));
        Twins.alike("matches()", "6", () -> with("n(x0,x3)", "n(a,b,c)"), x -> x.matches());
        Twins.alike("matches() of none", "0", () -> with("s(x0)", "n(a,b,c)"), x -> x.matches());
        Twins.alike("matchesAnew()", "6", () -> with("n(x0,x3)", "n(a,b,c)"), x -> x.matchesAnew());
        Twins.alike("matchesAnew() of too many", "-1", () -> with("n(x0,x3)", "n(a,b,c,i)"), x -> x.matchesAnew());
        Twins.alike("equations()", "3", Bench::rich, x -> x.equations());
        Twins.alike("fitting()", "4", () -> with("s(g(a,b))"), x -> x.fitting());
        Twins.alike("matching()", "1", () -> with("s(s(a))"), x -> x.matching());
        Twins.alike("isCut()", "0", Bench::rich, x -> x.isCut() ? 1 : 0);
        Twins.alike("isCut(), it is", "1", AskedTest::cut, x -> x.isCut() ? 1 : 0);
        Twins.alike("cameBy()", "1", Bench::rich, x -> x.cameBy(2));
        Twins.alike("finds()", "2", () -> with("g(x0,c)"), x -> x.finds(0));
        Twins.alike("finds() of none", "-1", () -> with("g(x0,c)"), x -> x.finds(9));
        Twins.alike("finds(), it is cut", "-1", AskedTest::cut, x -> x.finds(0));
        Twins.alike("ALWAYS", "0", () -> with("g(a,x0)"), x -> x.holds(RuleForge.ALWAYS) ? 1 : 0);
        Twins.alike("POSSIBLE", "1", () -> with("g(a,x0)"), x -> x.holds(RuleForge.POSSIBLE) ? 1 : 0);
        Twins.alike("SURE", "1", () -> with("g(a,x0)"), x -> x.holds(RuleForge.SURE) ? 1 : 0);
        Twins.alike("pairs()", "2", Bench::rich, x -> x.pairs());
        Twins.alike("joins()", "1", Bench::rich, x -> x.joins(0));
        Twins.alike("joins(), it does not", "0", Bench::rich, x -> x.joins(1));
        Twins.alike("descends()", "1", Bench::rich, x -> x.descends(0) ? 1 : 0);
    }

    /** What is told once more is as it was. */
    private static void toldAgain() {
        Twins.alike("below() what it is below", "1", Bench::rich, x -> x.below(0, 1) ? 1 : 0);
        Twins.alike("variable() its sort", "1", Bench::sorted, x -> x.variable(1, 1));
        Twins.alike("weight() its weight", "2", Bench::rich, x -> x.weight(4, 0, 2));
        Twins.alike("view() its view", "1", Bench::rich, x -> x.view(0, 1));
        Twins.alike("load() and keep() again", "3", Bench::rich, x -> x.load(0) == 4 ? x.keep(0) : 0);
        Twins.alike("drop() of none", "0", () -> with(), x -> x.drop());
    }

    private static void failing() {
        Twins.alike("reduce() that fails", "-2", AskedTest::endless, x -> x.reduce());
        Twins.alike("reduce() of what is reduced", "0", () -> with("b", "g(a,b)"), x -> x.reduce());
        Twins.alike("complete() that adds none", "0", Bench::rich, x -> x.complete());
        Twins.alike("complete() that fails", "0", AskedTest::endless, x -> x.complete());
        Twins.alike("a TEST that fails, and is gone", "-1", () -> with("b", "g(a,b)"), x -> {
            x.apply(0);
            x.test();
            return x.run();
        });
        Twins.alike("a run that is broken off, and is gone", "-2", () -> with("b", "g(a,b)"), x -> {
            x.idle();
            x.many();
            return x.run();
        });
        Twins.alike("a run that reducing ends, and is gone", "-2", AskedTest::endless, x -> {
            x.idle();
            return x.run();
        });
    }

    private static Bench endless() {
        Bench b = with();
        b.equation("r(x0,x3)", "r(x3,x0)");
        b.equation("g(b,x0)", "r(a,b)");
        return b.put("b").put("s(r(a,c))");
    }

    /** "In place of the search before; the top is gone, also if it fails." */
    private static void failedSearch() {
        Bench b = endless();
        Bench.due("search()", b.x.search(), RuleForge.FAILED);
        Bench.due("the one below is the top", b.top(), "b");
        Bench.due("the others stay", b.x.drop(), 1);
        Bench.index("no state", () -> b.x.state(0));
        Bench.due("not cut", b.x.isCut(), false);
    }

    public static void main(String[] args) {
        asked();
        toldAgain();
        failing();
        failedSearch();
        Bench.end();
    }
}
