/** The sentences on equations and reducing (promises 17 to 21) that name a boundary, each by itself. */
public final class ReduceEdgesTest {
    // ---- telling

    /** "There are at most 12, numbered from 0"; "returns how many equations there are". */
    private static void twelveEquations() {
        Bench b = Bench.usual();
        Bench.due("equations() of none", b.x.equations(), 0);
        for (int i = 0; i < 12; i++) {
            Bench.due("tell()", i % 2 == 0 ? b.equation("s(x0)", "x0") : b.equation("s(x0)", "x0", "x0", "x0"), i);
            Bench.due("equations()", b.x.equations(), i + 1);
        }
        b.put("s(x0)").put("x0").put("x0").put("x0");
        Bench.state("no thirteenth", () -> b.x.tell(false, false));
        Bench.state("none with a condition", () -> b.x.tell(false, true));
        Bench.due("equations() still", b.x.equations(), 12);
        Bench.due("a rule is none", b.x.tell(true, true), 0);
        Bench.due("equations() still", b.x.equations(), 12);
    }

    /** "Rules are told likewise, at most 8". */
    private static void eightRules() {
        Bench b = Bench.usual();
        for (int i = 0; i < 8; i++) {
            int rule = i;
            Bench.index("use(" + i + ") before", () -> b.x.use(rule));
            Bench.due("tell()", i % 2 == 0 ? b.rule("s(x0)", "x0") : b.rule("s(x0)", "x0", "x0", "x0"), i);
            Bench.due("use(" + i + ")", b.x.use(i), i + 1);
        }
        b.put("s(x0)").put("x0").put("x0").put("x0");
        Bench.state("no ninth", () -> b.x.tell(true, false));
        Bench.state("none with a condition", () -> b.x.tell(true, true));
        Bench.index("it is not there", () -> b.x.use(8));
        Bench.due("an equation is none", b.x.tell(false, true), 0);
    }

    /** "If there are not so many terms": 2, or 4 with a condition; no more are taken. */
    private static void fourTerms() {
        for (int given = 0; given <= 5; given++) {
            for (int k = 0; k < 4; k++) {
                boolean isRule = k % 2 == 1, hasCondition = k / 2 == 1;
                Bench b = Bench.usual();
                for (int i = 0; i < given; i++) {
                    b.put("s(x0)");
                }
                int wanted = hasCondition ? 4 : 2;
                if (given < wanted) {
                    Bench.state(wanted + " of " + given, () -> b.x.tell(isRule, hasCondition));
                    Bench.due("they are there", b.x.drop(), given);
                } else {
                    Bench.due(wanted + " of " + given, b.x.tell(isRule, hasCondition), 0);
                    Bench.due("the others are there", b.x.drop(), given - wanted);
                }
            }
        }
    }

    /** "A left side, a pattern that is no variable", of "at most 3 different variables". */
    private static void leftSides() {
        Bench b = Bench.usual();
        Bench.due("a constant", b.equation("a", "b"), 0);
        Bench.due("three variables", b.equation("h(x0,x5,x9)", "x9"), 1);
        Bench.due("three variables, and more often", b.rule("h(x0,x5,g(x9,x0))", "g(x0,x0)"), 0);
        told("a variable", b, "x0", "x0");
        told("one that has become a variable", b, "m(x0,i)", "x0");
        told("four variables", b, "h(x0,x5,g(x9,x1))", "x0");
        told("four variables in a row", b, "r(x0,x1,x2,x3)", "a");
        Bench.due("none was told", b.x.equations(), 2);
    }

    /** "All their variables are in the left side." */
    private static void knownVariables() {
        Bench b = Bench.usual();
        told("one on the right of a constant", b, "a", "x0");
        told("the last variable on the right", b, "g(x0,x1)", "x9");
        told("one below on the right", b, "g(x0,x1)", "m(a,s(x2))");
        told("one in the first of the condition", b, "g(x0,x1)", "x0", "x2", "x0");
        told("one in the second of the condition", b, "g(x0,x1)", "x0", "x0", "x2");
        Bench.due("none was told", b.x.equations(), 0);
        Bench.due("all of them", b.equation("h(x0,x1,x9)", "x9", "g(x0,x1)", "g(x1,x9)"), 0);
        Bench.due("none of them", b.equation("h(x0,x1,x9)", "a", "b", "c"), 1);
    }

    private static void told(String what, Bench b, String... sides) {
        for (boolean isRule : new boolean[] {false, true}) {
            b.x.drop();
            for (String side : sides) {
                b.put(side);
            }
            Bench.state(what, () -> b.x.tell(isRule, sides.length == 4));
            Bench.due(what + ", all are there", b.x.drop(), sides.length);
        }
    }

    // ---- reducing

    /** Constants k0 to k6, each of which an equation makes the next one; s/1 and g/2. */
    private static Bench counters() {
        Bench b = new Bench();
        b.x.sort();
        b.constants("k0 k1 k2 k3 k4 k5 k6 o");
        b.op("s", 1);
        b.op("g", 2);
        for (int i = 0; i < 6; i++) {
            b.equation("k" + i, "k" + (i + 1));
        }
        return b;
    }

    /** So many steps, in a term of a size of 19. */
    private static String steps(int count) {
        StringBuilder all = new StringBuilder();
        int rest = count;
        for (int i = 0; i < 10; i++) {
            int one = Math.min(rest, 6);
            rest -= one;
            all.append(i < 9 ? "g(" : "").append("k").append(6 - one).append(i < 9 ? "," : "");
        }
        return all + ")".repeat(9);
    }

    private static String normal() {
        return "g(k6,".repeat(9) + "k6" + ")".repeat(9);
    }

    /** "Returns how many steps it took"; "reducing fails with more than 60 steps". */
    private static void sixtySteps() {
        Bench b = counters();
        Bench.due("no step", b.reduced(normal()), "0 " + normal());
        Bench.due("no step of a variable", b.reduced("x9"), "0 x9");
        Bench.due("a step", b.reduced(steps(1)), "1 " + normal());
        Bench.due("59 steps", b.reduced(steps(59)), "59 " + normal());
        Bench.due("60 steps", b.reduced(steps(60)), "60 " + normal());
        b.equation("s(x0)", "x0");
        Bench.due("60 steps of two equations", b.reduced("s(" + steps(59) + ")"), "60 " + normal());
        Bench.due("61 steps", b.reduced("s(" + steps(60) + ")"), "-2 s(" + steps(60) + ")");
        Bench.due("counted anew", b.reduced(steps(60)), "60 " + normal());
        b.equation("o", "o");
        Bench.due("without end", b.reduced("o"), "-2 o");
    }

    /** "Those of conditions included": a condition is a step, and so is each use in it. */
    private static void stepsOfConditions() {
        Bench b = counters();
        b.equation("s(x0)", "x0", "x0", "k6");
        Bench.due("a condition and a use", b.reduced("s(k6)"), "2 k6");
        Bench.due("a condition that does not hold", b.reduced("s(o)"), "1 s(o)");
        Bench.due("a condition of a variable", b.reduced("s(x0)"), "1 s(x0)");
        Bench.due("a condition as the step 60", b.reduced("s(" + steps(59) + ")"), "60 s(" + normal() + ")");
        Bench.due("a condition as the step 61", b.reduced("s(" + steps(60) + ")"), "-2 s(" + steps(60) + ")");
        Bench c = counters();
        c.equation("s(x0)", "x0", "k6", "k6");
        Bench.due("a use as the step 60", c.reduced("s(" + steps(58) + ")"), "60 " + normal());
        Bench.due("a use as the step 61", c.reduced("s(" + steps(59) + ")"), "-2 s(" + steps(59) + ")");
        for (int steps = 0; steps <= 7; steps++) {
            Bench in = counters();
            in.equation("g(o,o)", "o");
            in.equation("s(s(x0))", "x0", "g(k" + Math.max(0, 6 - steps) + "," + (steps == 7 ? "g(o,o)" : "o") + ")", "g(k6,o)");
            Bench.due("steps in a condition", in.reduced("s(s(o))"), steps + 2 + " o");
        }
    }

    /** "With conditions within conditions more than 3 deep". */
    private static void threeDeep() {
        for (int side = 0; side < 2; side++) {
            Bench b = new Bench();
            b.x.sort();
            b.constants("k0 k1 k2 k3 k4 o");
            b.equation("k4", "o");
            for (int i = 0; i < 4; i++) {
                b.equation("k" + i, "o", side == 0 ? "k" + (i + 1) : "o", side == 0 ? "o" : "k" + (i + 1));
            }
            Bench.due("none deep", b.reduced("k4"), "1 o");
            Bench.due("1 deep", b.reduced("k3"), "3 o");
            Bench.due("2 deep", b.reduced("k2"), "5 o");
            Bench.due("3 deep", b.reduced("k1"), "7 o");
            Bench.due("4 deep", b.reduced("k0"), "-2 k0");
        }
        Bench b = new Bench();
        b.x.sort();
        b.constants("k0 k1 k2 k3 k4 o");
        b.op("g", 2);
        for (int i = 0; i < 4; i++) {
            b.equation("k" + i, "o", "k" + (i + 1), "k" + (i + 1));
        }
        Bench.due("3 deep, one behind the other", b.reduced("k1"), "14 o");
        Bench.due("twice as many, not deeper", b.reduced("g(k1,k1)"), "28 g(o,o)");
        Bench.due("4 deep, although it would hold", b.reduced("k0"), "-2 k0");
    }

    /** "Or if a term would be made that is too large": of a size above 20, or with more than 5 arguments. */
    private static void tooLarge() {
        Bench b = Bench.usual();
        b.equation("b", Bench.times("s", 9, "a"));
        b.equation("c", "r(a,a,a)");
        b.equation("d", "m(a,a,a)");
        b.equation("s(o)", "i");
        Bench.due("a size of 20", b.reduced(Bench.times("s", 10, "b")), "1 " + Bench.times("s", 19, "a"));
        failed("a size of 21", b, Bench.times("s", 11, "b"));
        Bench.due("5 arguments of a ROW", b.reduced("r(a,c,a)"), "1 r(a,a,a,a,a)");
        failed("6 arguments of a ROW", b, "r(a,c,a,a)");
        Bench.due("5 arguments of a BAG", b.reduced("m(a,a,d)"), "1 m(a,a,a,a,a)");
        failed("6 arguments of a BAG", b, "m(a,a,a,d)");
        Bench.due("5 arguments, the identity left out", b.reduced("m(a,a,d,s(o))"), "2 m(a,a,a,a,a)");
        for (int side = 0; side < 3; side++) {
            String large = "h(x0,x0,x1)";
            Bench c = Bench.usual();
            if (side == 0) {
                c.equation("g(x0,x1)", large);
            } else {
                c.equation("g(x0,x1)", "x0", side == 1 ? large : "a", side == 1 ? "a" : large);
            }
            String seven = Bench.times("s", 7, "a");
            Bench.due("20, in the part " + side, c.reduced("g(" + seven + ",s(s(a)))").substring(0, 2), "1 ");
            failed("21, in the part " + side, c, "g(" + seven + ",s(s(s(a))))");
        }
    }

    private static void failed(String what, Bench b, String term) {
        Bench.due(what, b.reduced(term), "-2 " + term);
    }

    /** "If that is a variable, it is done"; what is left when an identity is left out is looked at again. */
    private static void variables() {
        Bench b = Bench.usual();
        b.equation("e", "i");
        b.equation("s(x0)", "o", "x0", "o");
        Bench.due("one left, a variable", b.reduced("r(e,x4)"), "1 x4");
        Bench.due("one left, and its condition again", b.reduced("r(e,s(d))"), "3 s(d)");
        Bench c = Bench.usual();
        c.equation("m(x0,x1)", "o");
        Bench.due("a variable is not looked at", c.reduced("x4"), "0 x4");
        Bench.due("although the left side has a match to it", c.matches("m(x0,x1)", "x4"), "2 2");
        failed("a constant is", c, "a");
    }

    /** "FAILED, and the top stays" as it was, not reduced in part. */
    private static void failing() {
        Bench b = Bench.usual();
        b.equation("a", "b");
        b.equation("c", "c");
        b.x.drop();
        b.put("e").put("g(a,c)");
        Bench.due("reduce()", b.x.reduce(), RuleForge.FAILED);
        Bench.due("the top", b.top(), "g(a,c)");
        Bench.due("all are there", b.x.drop(), 2);
        Bench.due("then another one", b.reduced("g(a,a)"), "2 g(b,b)");
    }

    /** What fails leaves nothing behind, however often. */
    private static void failingOften() {
        Bench b = Bench.usual();
        b.equation("c", "g(c,c)");
        b.equation("d", "e", "d", "d");
        b.put(Bench.times("s", 9, "c"));
        b.put(Bench.times("s", 9, "d"));
        b.x.keep(1);
        for (int i = 0; i < 100; i++) {
            Bench.due("too large", b.x.reduce(), RuleForge.FAILED);
            b.x.load(1);
            Bench.due("too deep", b.x.reduce(), RuleForge.FAILED);
            b.x.keep(1);
        }
        Bench.due("then another one", b.reduced(Bench.times("s", 19, "a")), "0 " + Bench.times("s", 19, "a"));
    }

    /** "(There it is not looked at sorts of terms, but in matches.)" */
    private static void sortsInReducing() {
        Bench b = new Bench();
        b.x.sort();
        b.x.sort();
        b.op("a", 0);
        b.bare("n", 0, 0, "");
        int s = b.bare("s", 1, 0, "");
        b.op("t", 1);
        b.x.declare(s, 1, 0, 0, 0);
        b.equation("t(x0)", "s(s(x0))");
        Bench.due("a term without a sort is made", b.reduced("t(a)"), "1 s(s(a))");
        Bench.due("a term without a sort is no match", b.reduced("t(n)"), "0 t(n)");
        Bench.due("nor one of another sort", b.reduced("t(t(a))"), "1 t(s(s(a)))");
        b.equation("n", "a");
        Bench.due("then it is one", b.reduced("t(n)"), "2 s(s(a))");
    }

    /** "Of the equations by rising numbers, the first one", "of its matches the first one for which the condition holds". */
    private static void firstOnes() {
        Bench b = Bench.usual();
        for (int i = 0; i < 11; i++) {
            b.equation(i == 0 ? "s(b)" : "s(s(b))", "o");
        }
        b.equation("s(a)", "c");
        Bench.due("the last of 12", b.reduced("s(a)"), "1 c");
        Bench.due("the first of 12", b.reduced("s(b)"), "1 o");
        Bench c = Bench.usual();
        c.op("n", 2, RuleForge.BAG, "");
        c.equation("n(x0,x1)", "x0", "x1", "c");
        Bench.due("the last match, the only one whose condition holds", c.reduced("n(b,a,c)"), "13 n(a,b)");
        Bench d = Bench.usual();
        d.op("n", 2, RuleForge.BAG, "");
        d.equation("n(x0,x1)", "x0", "x0", "c");
        d.equation("n(x0,x1)", "g(x0,x1)", "x0", "b");
        Bench.due("the first match of the first one", d.reduced("n(c,e)"), "2 c");
        Bench.due("the second match of the first one", d.reduced("n(a,c)"), "3 c");
        Bench.due("the first match of the second one", d.reduced("n(b,e)"), "4 g(b,e)");
        Bench.due("none of them", d.reduced("n(a,e)"), "4 n(a,e)");
    }

    // ---- nets

    /** "The set, bit k for the equation k": of none, of the first and of the last of 12. */
    private static void sets() {
        Bench b = Bench.usual();
        b.put("a");
        Bench.due("fitting() of none", b.x.fitting(), 0);
        Bench.due("matching() of none", b.x.matching(), 0);
        for (int i = 0; i < 12; i++) {
            b.equation(i % 11 == 0 ? "s(a)" : "s(g(a,b))", "a");
        }
        sets(b, "s(a)", 1 + (1 << 11), 1 + (1 << 11));
        sets(b, "s(g(a,b))", (1 << 11) - 2, (1 << 11) - 2);
        sets(b, "s(g(a,c))", (1 << 11) - 2, 0);
        sets(b, "s(b)", 0, 0);
        sets(b, "a", 0, 0);
        b.x.drop();
        Bench.state("fitting() without a top", () -> b.x.fitting());
        Bench.state("matching() without a top", () -> b.x.matching());
    }

    private static void sets(Bench b, String term, int fitting, int matching) {
        b.x.drop();
        b.put(term);
        Bench.due("fitting() of " + term, b.x.fitting(), fitting);
        Bench.due("matching() of " + term, b.x.matching(), matching);
        Bench.due("the top stays", b.top(), term);
    }

    /** "If its left side has the same operator, or one with an identity; and, if that is FREE, each argument ..." */
    private static void nets() {
        net("the same operator", "s(x0)", "s(a)", 1, 1);
        net("another operator", "s(x0)", "g(a,a)", 0, 0);
        net("another constant", "a", "b", 0, 0);
        net("a variable as the term", "s(x0)", "x0", 0, 0);
        net("a ROW with an identity", "r(x0,a)", "b", 1, 0);
        net("a BAG with an identity, a variable as the term", "m(x0,x1)", "x3", 1, 1);
        net("a ROW without identity", "q(x0,x1)", "a", 0, 0);
        net("a BAG without identity", "n(x0,x1)", "q(a,b)", 0, 0);
        net("a ROW without identity, whatever its arguments are", "q(a,b)", "q(c,d,e)", 1, 0);
        net("a PAIR, whatever its arguments are", "p(a,b)", "p(c,s(d))", 1, 0);
        net("the same argument", "h(x0,x1,a)", "h(b,c,a)", 1, 1);
        net("another argument", "h(x0,x1,a)", "h(b,c,b)", 0, 0);
        net("another one in the middle", "h(x0,a,x1)", "h(a,s(a),a)", 0, 0);
        net("a variable there", "h(a,x0,x1)", "h(x5,b,b)", 0, 0);
        net("the same operator there, another one below", "s(g(a,b))", "s(g(b,a))", 1, 0);
        net("one with an identity", "g(m(x0,a),x1)", "g(b,b)", 1, 0);
        net("one with an identity, and a variable there", "g(x1,r(x0,x2))", "g(b,x5)", 1, 1);
        net("a BAG without identity in it", "g(n(x0,x1),x1)", "g(a,b)", 0, 0);
        net("the same BAG in it", "g(n(x0,a),x1)", "g(n(b,c,d),b)", 1, 0);
        net("the identity itself", "g(i,x1)", "g(a,b)", 0, 0);
        net("its sorts do not matter", "g(x0,x1)", "g(w,a)", 1, 0);
    }

    private static void net(String what, String left, String term, int fitting, int matching) {
        Bench b = Bench.usual();
        b.op("n", 2, RuleForge.BAG, "");
        b.op("q", 2, RuleForge.ROW, "");
        b.bare("w", 0, 0, "");
        b.equation(left, "a", "a", "b");
        b.put(term);
        Bench.due("fitting(), " + what, b.x.fitting(), fitting);
        Bench.due("matching(), " + what, b.x.matching(), matching);
    }

    public static void main(String[] args) {
        twelveEquations();
        eightRules();
        fourTerms();
        leftSides();
        knownVariables();
        sixtySteps();
        stepsOfConditions();
        threeDeep();
        tooLarge();
        variables();
        failing();
        failingOften();
        sortsInReducing();
        firstOnes();
        sets();
        nets();
        Bench.end();
    }
}
