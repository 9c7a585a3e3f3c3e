/** Promises 14 to 21: matches, equations and reducing. */
public final class EquationsTest {
    private static void matches() {
        Bench b = Bench.usual();
        b.op("n", 2, RuleForge.BAG, "");
        b.op("q", 2, RuleForge.ROW, "");
        Bench.due("a variable", b.matches("x0", "s(a)"), "1 1");
        Bench.due("no variables", b.matches("s(a)", "s(a)"), "1 1");
        Bench.due("no variables, another one", b.matches("s(a)", "s(b)"), "0 0");
        Bench.due("the pattern's variable is not the subject's", b.matches("s(x0)", "s(x1)"), "1 1");
        Bench.due("FREE", b.matches("g(x0,x1)", "g(a,b)"), "1 1");
        Bench.due("FREE, twice the same", b.matches("g(x0,x0)", "g(s(a),s(a))"), "1 1");
        Bench.due("FREE, not twice the same", b.matches("g(x0,x0)", "g(a,b)"), "0 0");
        Bench.due("another operator", b.matches("s(x0)", "g(a,b)"), "0 0");
        Bench.due("PAIR", b.matches("p(x0,x1)", "p(a,b)"), "2 2");
        Bench.due("PAIR of the same", b.matches("p(x0,x1)", "p(a,a)"), "1 1");
        Bench.due("PAIR, one known", b.given("p(x0,b)", "p(a,b)", 0), "a");
        Bench.due("PAIR, the order", b.given("p(x0,x1)", "p(a,b)", 0), "a b");
        Bench.due("PAIR in a PAIR", b.matches("p(x0,p(x1,x2))", "p(p(a,b),p(c,d))"), "4 4");
        Bench.due("ROW", b.matches("r(x0,x1)", "r(a,b)"), "3 3");
        Bench.due("ROW, in order", b.given("r(x0,x1)", "r(a,b)", 0), "a i r(a,b)");
        Bench.due("ROW, the others then", b.given("r(x0,x1)", "r(a,b)", 1), "b r(a,b) i");
        Bench.due("ROW, another subject", b.matches("r(x0,x1)", "a"), "2 2");
        Bench.due("ROW, a variable as the subject", b.matches("r(x0,x1)", "x5"), "2 2");
        Bench.due("ROW, the identity", b.matches("r(x0,x1)", "i"), "1 1");
        Bench.due("ROW, twice the same", b.given("r(x0,x0)", "r(a,b,a,b)", 0), "r(a,b)");
        Bench.due("ROW without identity", b.given("q(x0,x1)", "q(a,b,c)", 0), "a q(a,b)");
        Bench.due("ROW without identity, another subject", b.matches("q(x0,x1)", "a"), "0 0");
        Bench.due("ROW round a known one", b.given("r(x0,c,x1)", "r(a,c,b,c)", 0), "a r(a,c,b)");
        Bench.due("BAG", b.matches("m(x0,x1)", "m(a,b)"), "4 4");
        Bench.due("BAG, in order", b.given("m(x0,x1)", "m(a,b)", 0), "a b i m(a,b)");
        Bench.due("BAG of the same", b.given("m(x0,x1)", "m(a,a)", 0), "a i m(a,a)");
        Bench.due("BAG without identity", b.given("n(x0,x1)", "n(a,b,c)", 0), "a b c n(a,b) n(a,c) n(b,c)");
        Bench.due("BAG with another one", b.given("m(x0,s(x1))", "m(a,s(b),s(c))", 1), "c b");
        Bench.due("BAG with more arguments than the subject", b.matches("m(x0,x1,x2)", "a"), "3 3");
        Bench.due("BAG without identity, too many", b.matches("n(x0,x1,x2)", "n(a,b)"), "0 0");
        Bench.due("BAG, three of five", b.matches("m(x0,x1,x2)", "m(a,b,c,d,e)"), "243 -1");
        Bench.due("BAG, three of five without identity", b.matches("n(x0,x1,x2)", "n(a,b,c,d,e)"), "150 -1");
        Bench.due("BAG, three of five of the same", b.matches("m(x0,x1,x2)", "m(a,a,a,a,a)"), "21 21");
        Bench.due("below FREE, left out", b.given("s(m(x0,x1))", "s(a)", 1), "i a");
        Bench.due("below FREE, all of it", b.matches("g(r(x0,x1),x1)", "g(a,i)"), "1 1");
        Bench.due("one below another one", b.given("m(x0,r(x1,a))", "m(b,a)", 1), "i");
        Bench.due("a bag in a bag", b.given("m(x0,r(x1,x2))", "m(a,b)", 0), "a a b b i i m(a,b)");
        Bench.due("the lowest variable first", b.given("g(x2,x1)", "g(b,a)", 1), "a");
        Bench.due("a size of 20", b.matches(Bench.times("s", 10, "x0"), Bench.times("s", 19, "a")), "1 -1");
        b.x.drop();
        b.put("x0");
        Bench.state("matches() of one", () -> b.x.matches());
        Bench.state("matchesAnew() of one", () -> b.x.matchesAnew());
        b.x.drop();
        b.put("m(x0,x1,x2,x3)").put("a");
        Bench.state("matches() of four variables", () -> b.x.matches());
        Bench.state("matchesAnew() of four variables", () -> b.x.matchesAnew());
        Bench.state("match() of four variables, whatever place", () -> b.x.match(-1, 99));
        Bench.due("they are left", b.x.drop(), 2);
        Bench.due("four variables in the subject", b.matches("x9", "m(x0,x1,x2,x3)"), "1 -1");
    }

    private static void sortsOfMatches() {
        Bench b = new Bench();
        b.x.sort();
        b.x.sort();
        b.x.sort();
        b.x.below(0, 1);
        b.x.variable(1, 1);
        b.x.variable(2, 2);
        b.op("a", 0);
        int c = b.bare("c", 0, 0, "");
        b.x.declare(c, 1, 0, 0, 0);
        b.bare("n", 0, 0, "");
        int m = b.bare("m", 2, RuleForge.BAG, "");
        b.x.declare(m, 1, 0, 0, 0);
        b.x.declare(m, 1, 0, 1, 0);
        Bench.due("the same sort", b.matches("x0", "a"), "1 1");
        Bench.due("a sort below", b.matches("x1", "a"), "1 1");
        Bench.due("a sort above", b.matches("x0", "c"), "0 0");
        Bench.due("another sort", b.matches("x2", "a"), "0 0");
        Bench.due("no sort", b.matches("x0", "n"), "0 0");
        Bench.due("no sort, but no variable", b.matches("n", "n"), "1 1");
        Bench.due("parts by their sorts", b.given("m(x0,x1)", "m(a,a,c)", 1), "m(a,c)");
        Bench.due("parts by their sorts, the other one", b.given("m(x0,x1)", "m(a,a,c)", 0), "a");
        Bench.due("a variable by its sort", b.matches("x1", "x0"), "1 1");
        Bench.due("a variable above", b.matches("x0", "x1"), "0 0");
    }

    private static void matchesAnew() {
        Bench b = Bench.usual();
        Bench.due("8 terms with the identity", b.matches("x0", "g(g(a,b),g(c,d))"), "1 1");
        Bench.due("the same ones count once", b.matches("x0", "h(g(a,b),g(a,b),s(s(s(a))))"), "1 1");
        Bench.due("9 terms", b.matches("x0", "h(s(a),s(b),s(s(c)))"), "1 -1");
        Bench.due("9 terms, whatever the pattern is", b.matches("a", "h(s(a),s(b),s(s(c)))"), "0 -1");
        Bench.due("the identity among the 8", b.matches("x0", "h(s(a),s(b),s(s(i)))"), "1 1");
        Bench.due("parts of a BAG, 8", b.matches("m(x0,x1)", "m(a,b,c)"), "8 8");
        Bench.due("parts of a BAG, 9", b.matches("s(x0)", "s(m(a,b,c))"), "1 -1");
        Bench.due("parts of a ROW, 8", b.matches("s(r(x0,x1))", "s(r(a,b,c))"), "4 4");
        Bench.due("parts of a ROW, 9", b.matches("s(x0)", "s(s(r(a,b,c)))"), "1 -1");
        b.op("q", 2, RuleForge.ROW, "o");
        Bench.due("each identity counts", b.matches("x0", "g(g(a,b),g(c,d))"), "1 -1");
    }

    private static void match() {
        Bench b = Bench.usual();
        b.put("m(x0,x3)").put("m(a,b)");
        Bench.due("match(3, 3)", b.x.match(3, 3), 3);
        Bench.due("what it gives", b.top(), "i");
        b.x.keep(0);
        Bench.due("match(3, 0)", b.x.match(3, 0), 3);
        Bench.due("a part", b.top(), "m(a,b)");
        b.x.keep(0);
        Bench.index("match(4, 0)", () -> b.x.match(4, 0));
        Bench.index("match(-1, 0)", () -> b.x.match(-1, 0));
        Bench.index("match(0, 1)", () -> b.x.match(0, 1));
        Bench.index("match(0, -1)", () -> b.x.match(0, -1));
        Bench.index("match(0, 10)", () -> b.x.match(0, 10));
        Bench.index("match(0, 32)", () -> b.x.match(0, 32));
        b.x.drop();
        Bench.state("match(-1, -1) of none", () -> b.x.match(-1, -1));
        for (int i = 0; i < 8; i++) {
            b.put("a");
        }
        b.put("s(x0)").put("s(c)");
        Bench.state("match(0, 0) with 10", () -> b.x.match(0, 0));
        Bench.index("match(1, 0) with 10, the index first", () -> b.x.match(1, 0));
        b.x.drop();
        for (int i = 0; i < 7; i++) {
            b.put("a");
        }
        b.put("s(x0)").put("s(c)");
        Bench.due("match(0, 0) with 9", b.x.match(0, 0), 10);
    }

    private static void tell() {
        Bench b = Bench.usual();
        Bench.due("an equation", b.equation("g(x0,x1)", "x0"), 0);
        Bench.due("with a condition", b.equation("g(x0,x1)", "x1", "x0", "a"), 1);
        Bench.due("a rule", b.rule("s(x0)", "x0"), 0);
        Bench.due("a rule with a condition", b.rule("a", "b", "a", "c"), 1);
        Bench.due("equations()", b.x.equations(), 2);
        Bench.due("all are from the stack", b.x.drop(), 0);
        b.put("s(x0)");
        Bench.state("one term", () -> b.x.tell(false, false));
        b.put("x0").put("x0");
        Bench.state("three terms with a condition", () -> b.x.tell(false, true));
        Bench.state("a variable on the left", () -> b.x.tell(false, false));
        b.x.drop();
        b.put("m(x0,x1,x2,x3)").put("a");
        Bench.state("four variables", () -> b.x.tell(true, false));
        b.put("s(x0)").put("x1");
        Bench.state("a variable that the left side has not", () -> b.x.tell(false, false));
        b.put("s(x0)").put("x0").put("x0").put("s(x9)");
        Bench.state("one in the condition", () -> b.x.tell(false, true));
        Bench.due("they are left", b.x.drop(), 8);
        Bench.due("equations() still", b.x.equations(), 2);
        for (int i = 2; i < 12; i++) {
            Bench.due("an equation", b.equation("h(x0,x1,x2)", "x2"), i);
        }
        b.put("o").put("a");
        Bench.state("a thirteenth", () -> b.x.tell(false, false));
        for (int i = 2; i < 8; i++) {
            Bench.due("a rule", b.rule("o", "a"), i);
        }
        Bench.state("a ninth rule", () -> b.x.tell(true, false));
        Bench.due("equations() with 12", b.x.equations(), 12);
        Bench.due("they are left again", b.x.drop(), 2);
    }

    private static void reduce() {
        Bench b = Bench.usual();
        Bench.due("without equations", b.reduced("s(m(b,a))"), "0 s(m(a,b))");
        b.equation("s(s(x0))", "x0");
        Bench.due("two uses", b.reduced("s(s(s(s(s(a)))))"), "2 s(a)");
        Bench.due("a variable", b.reduced("x4"), "0 x4");
        Bench.due("to a variable", b.reduced("s(s(x4))"), "1 x4");
        b.equation("g(x0,a)", "x0", "x0", "b");
        b.equation("g(x0,x1)", "x1");
        Bench.due("a condition that holds", b.reduced("g(b,a)"), "2 b");
        Bench.due("one that does not, then the next equation", b.reduced("g(c,a)"), "2 a");
        Bench.due("no condition to be looked at", b.reduced("g(c,d)"), "1 d");
        Bench.due("the condition is reduced", b.reduced("g(s(s(b)),a)"), "3 b");
        b.equation("e", "i");
        Bench.due("one is left", b.reduced("r(e,x2,e)"), "2 x2");
        Bench.due("none is left", b.reduced("m(e,e)"), "2 i");
        b.equation("d", "m(a,b)");
        Bench.due("put on anew", b.reduced("m(c,d,a)"), "1 m(a,a,b,c)");
        Bench.due("too many arguments then", b.reduced("m(d,d,d)"), "-2 m(d,d,d)");
        b.x.drop();
        Bench.state("reduce() without a top", () -> b.x.reduce());
        orders();
        limits();
    }

    private static void orders() {
        Bench b = Bench.usual();
        b.op("n", 2, RuleForge.BAG, "");
        b.equation("s(a)", "b");
        b.equation("s(x0)", "c");
        b.equation("n(x0,x1)", "x1", "x0", "b");
        Bench.due("the first one", b.reduced("s(a)"), "1 b");
        Bench.due("the second one", b.reduced("s(b)"), "1 c");
        Bench.due("the second match", b.reduced("n(a,b)"), "3 a");
        Bench.due("no match whose condition holds", b.reduced("n(a,c)"), "2 n(a,c)");
        Bench.due("the arguments first", b.reduced("s(s(a))"), "2 c");
        Bench.due("a part of a BAG", b.reduced("n(a,b,c)"), "5 n(a,c)");
        b.x.drop();
        Bench sorted = new Bench();
        sorted.x.sort();
        sorted.x.sort();
        sorted.x.variable(1, 1);
        sorted.op("a", 0);
        int f = sorted.bare("f", 1, 0, "");
        sorted.x.declare(f, 1, 0, 0, 0);
        sorted.op("z", 1);
        sorted.equation("z(x1)", "f(x1)");
        Bench.due("sorts count in matches", sorted.reduced("z(a)"), "0 z(a)");
        Bench.due("and nowhere else", sorted.reduced("z(f(a))"), "1 f(f(a))");
        Bench.due("no sort then", sorted.reduced("z(z(f(a)))"), "1 z(f(f(a)))");
    }

    private static void limits() {
        Bench b = new Bench();
        b.x.sort();
        b.constants("k0 k1 k2 k3 k4 k5 k6");
        b.op("s", 1);
        b.op("g", 2);
        for (int i = 0; i < 6; i++) {
            b.equation("k" + i, "k" + (i + 1));
        }
        b.equation("s(x0)", "x0");
        String four = "g(g(k0,k0),g(k0,k0))";
        String ten = "g(g(" + four + "," + four + "),g(k0,k0))";
        Bench.due("60 steps", b.reduced(ten), "60 " + ten.replace("k0", "k6"));
        Bench.due("61 steps", b.reduced("s(" + ten + ")"), "-2 s(" + ten + ")");
        b.equation("g(x0,k6)", "k6", "x0", "k6");
        Bench.due("conditions count", b.reduced("g(s(k6),s(k0))"), "10 k6");
        deep();
        large();
    }

    private static void deep() {
        Bench b = new Bench();
        b.x.sort();
        b.constants("k0 k1 k2 k3 k4 o");
        for (int i = 0; i < 4; i++) {
            b.equation("k" + i, "o", "k" + (i + 1), "o");
        }
        b.equation("k4", "o");
        Bench.due("no condition", b.reduced("k4"), "1 o");
        Bench.due("a condition", b.reduced("k3"), "3 o");
        Bench.due("a condition in one", b.reduced("k2"), "5 o");
        Bench.due("3 deep", b.reduced("k1"), "7 o");
        Bench.due("4 deep", b.reduced("k0"), "-2 k0");
        Bench.due("a condition of a rule is one, too", b.rule("o", "k4", "k2", "o"), 0);
        Bench.due("3 deep in a search", b.search("o"), 1);
        Bench rule = new Bench();
        rule.x.sort();
        rule.constants("k0 k1 k2 k3 o");
        for (int i = 0; i < 3; i++) {
            rule.equation("k" + i, "o", "k" + (i + 1), "o");
        }
        rule.equation("k3", "o");
        rule.rule("o", "o", "k0", "o");
        Bench.due("4 deep in a search", rule.search("o"), -2);
    }

    private static void large() {
        Bench b = Bench.usual();
        b.equation("a", Bench.times("s", 18, "b"));
        b.equation("c", "c");
        b.equation("g(x0,x1)", "h(x0,x0,x1)");
        Bench.due("a size of 20", b.reduced("s(a)"), "1 " + Bench.times("s", 19, "b"));
        Bench.due("a size of 21", b.reduced("s(s(a))"), "-2 s(s(a))");
        Bench.due("a right side that is too large", b.reduced("g(" + Bench.times("s", 9, "b") + ",b)"),
                "-2 g(" + Bench.times("s", 9, "b") + ",b)");
        Bench.due("a right side of 20", b.reduced("g(" + Bench.times("s", 8, "b") + ",b)").substring(0, 4), "1 h(");
        Bench.due("without end", b.reduced("s(c)"), "-2 s(c)");
    }

    private static void fitting() {
        Bench b = Bench.usual();
        b.equation("g(s(x0),x1)", "a");
        b.equation("g(a,x0)", "a");
        b.equation("m(x0,a)", "a");
        b.equation("p(s(x0),a)", "a");
        b.equation("g(m(x0,x1),x1)", "a", "a", "b");
        b.equation("r(x0,s(x1))", "a");
        Bench.due("none on the stack", b.x.drop(), 0);
        Bench.state("fitting() without a top", () -> b.x.fitting());
        Bench.state("matching() without a top", () -> b.x.matching());
        Bench.due("g(s(b),c)", sets(b, "g(s(b),c)"), "53 1");
        Bench.due("g(a,c)", sets(b, "g(a,c)"), "54 2");
        Bench.due("g(x0,c)", sets(b, "g(x0,c)"), "52 0");
        Bench.due("g(c,c), whatever its condition", sets(b, "g(c,c)"), "52 16");
        Bench.due("p(b,c)", sets(b, "p(b,c)"), "44 0");
        Bench.due("p(a,s(c))", sets(b, "p(a,s(c))"), "44 8");
        Bench.due("a constant", sets(b, "a"), "36 4");
        Bench.due("an operator that is in no left side", sets(b, "s(c)"), "36 32");
        Bench.due("a variable", sets(b, "x0"), "36 0");
        b.equation("m(x0,x1)", "a");
        Bench.due("a variable as the subject", sets(b, "x0"), "100 64");
        for (int i = 7; i < 12; i++) {
            b.equation("o", "a");
        }
        Bench.due("the last equation", sets(b, "o"), (100 + 31 * 128) + " " + (64 + 31 * 128));
    }

    private static String sets(Bench b, String term) {
        b.x.drop();
        b.put(term);
        return b.x.fitting() + " " + b.x.matching();
    }

    public static void main(String[] args) {
        matches();
        sortsOfMatches();
        matchesAnew();
        match();
        tell();
        reduce();
        fitting();
        Bench.end();
    }
}
