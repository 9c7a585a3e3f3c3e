/** Promises 1 to 13: sorts, operators and terms. */
public final class TermsTest {
    private static void newObject() {
        RuleForge x = new RuleForge();
        Bench.due("constants", RuleForge.NONE * 10 + RuleForge.FAILED, -12);
        Bench.due("axioms", RuleForge.FREE + 10 * RuleForge.PAIR + 100 * RuleForge.ROW + 1000 * RuleForge.BAG, 3210);
        Bench.due("claims", RuleForge.ALWAYS + 10 * RuleForge.POSSIBLE + 100 * RuleForge.SURE, 210);
        Bench.due("new: equations()", x.equations(), 0);
        Bench.due("new: drop()", x.drop(), 0);
        Bench.due("new: isCut()", x.isCut(), false);
        Bench.due("new: pairs()", x.pairs(), 0);
        Bench.due("new: complete()", x.complete(), 0);
        Bench.index("new: apply(0)", () -> x.apply(0));
        Bench.index("new: use(0)", () -> x.use(0));
        Bench.index("new: state(0)", () -> x.state(0));
        Bench.state("new: load(0)", () -> x.load(0));
        Bench.state("new: many()", () -> x.many());
        Bench.index("new: variable(0, 0)", () -> x.variable(0, 0));
        Bench.due("new: sort()", x.sort(), 0);
        Bench.due("new: operator()", x.operator(0, 0, -1), 0);
    }

    private static void sort() {
        RuleForge x = new RuleForge();
        for (int i = 0; i < 8; i++) {
            Bench.due("sort()", x.sort(), i);
        }
        Bench.state("sort() with 8", () -> x.sort());
        Bench.due("the last sort is there", x.below(6, 7), false);
        Bench.index("there is no ninth", () -> x.below(0, 8) ? 1 : 0);
    }

    private static void below() {
        RuleForge x = new RuleForge();
        for (int i = 0; i < 5; i++) {
            x.sort();
        }
        Bench.due("below(0, 1)", x.below(0, 1), false);
        Bench.due("below(0, 1) again", x.below(0, 1), true);
        Bench.due("below(2, 3)", x.below(2, 3), false);
        Bench.due("below(1, 2)", x.below(1, 2), false);
        Bench.due("below(0, 3), by others", x.below(0, 3), true);
        Bench.due("below(0, 2), by others", x.below(0, 2), true);
        Bench.state("below(0, 0)", () -> x.below(0, 0) ? 1 : 0);
        Bench.state("below(3, 0)", () -> x.below(3, 0) ? 1 : 0);
        Bench.state("below(1, 0)", () -> x.below(1, 0) ? 1 : 0);
        Bench.due("it was not told then", x.below(3, 4), false);
        Bench.due("below(0, 4)", x.below(0, 4), true);
        Bench.index("below(-1, 0)", () -> x.below(-1, 0) ? 1 : 0);
        Bench.index("below(0, 5)", () -> x.below(0, 5) ? 1 : 0);
        Bench.index("below(5, 5), the index first", () -> x.below(5, 5) ? 1 : 0);
        Bench.index("below(min, max)", () -> x.below(Integer.MIN_VALUE, Integer.MAX_VALUE) ? 1 : 0);
    }

    private static void variable() {
        RuleForge x = new RuleForge();
        x.sort();
        x.sort();
        Bench.due("variable(0, 1)", x.variable(0, 1), 0);
        Bench.due("variable(0, 0)", x.variable(0, 0), 1);
        Bench.due("variable(9, 1)", x.variable(9, 1), 0);
        Bench.due("variable(9, 1) again", x.variable(9, 1), 1);
        Bench.argument("variable(10, 0)", () -> x.variable(10, 0));
        Bench.argument("variable(-1, 0)", () -> x.variable(-1, 0));
        Bench.index("variable(0, 2)", () -> x.variable(0, 2));
        Bench.index("variable(10, -1), the index first", () -> x.variable(10, -1));
        for (int isRule = 0; isRule < 2; isRule++) {
            Bench b = Bench.usual();
            if (isRule == 1) {
                b.rule("a", "b");
            } else {
                b.equation("a", "b");
            }
            Bench.state("variable(0, 0) with an equation or a rule", () -> b.x.variable(0, 0));
            Bench.argument("variable(10, 0), the argument first", () -> b.x.variable(10, 0));
            Bench.state("declare() with an equation or a rule", () -> b.x.declare(0, 0, 0, 0, 0));
            Bench.index("declare(), the index first", () -> b.x.declare(0, 1, 0, 0, 0));
        }
    }

    private static void operator() {
        RuleForge x = new RuleForge();
        Bench.due("operator(0)", x.operator(0, RuleForge.FREE, -1), 0);
        Bench.due("operator(3)", x.operator(3, RuleForge.FREE, -1), 1);
        Bench.due("operator(PAIR)", x.operator(2, RuleForge.PAIR, -1), 2);
        Bench.due("operator(ROW, 0)", x.operator(2, RuleForge.ROW, 0), 3);
        Bench.due("operator(BAG, 0)", x.operator(2, RuleForge.BAG, 0), 4);
        Bench.due("operator(BAG)", x.operator(2, RuleForge.BAG, -1), 5);
        Bench.argument("arity -1", () -> x.operator(-1, 0, -1));
        Bench.argument("arity 4", () -> x.operator(4, 0, -1));
        Bench.argument("axioms -1", () -> x.operator(2, -1, -1));
        Bench.argument("axioms 4", () -> x.operator(2, 4, -1));
        Bench.argument("PAIR of the arity 1", () -> x.operator(1, RuleForge.PAIR, -1));
        Bench.argument("ROW of the arity 3", () -> x.operator(3, RuleForge.ROW, -1));
        Bench.argument("BAG of the arity 0", () -> x.operator(0, RuleForge.BAG, -1));
        Bench.argument("FREE with an identity", () -> x.operator(2, RuleForge.FREE, 0));
        Bench.argument("PAIR with an identity", () -> x.operator(2, RuleForge.PAIR, 0));
        Bench.argument("an identity with arguments", () -> x.operator(2, RuleForge.ROW, 1));
        Bench.index("no such identity", () -> x.operator(2, RuleForge.ROW, 6));
        Bench.index("identity -2", () -> x.operator(2, RuleForge.ROW, -2));
        Bench.index("the index first", () -> x.operator(9, 9, 6));
        for (int i = 6; i < 16; i++) {
            Bench.due("operator", x.operator(i % 4, 0, -1), i);
        }
        Bench.state("operator() with 16", () -> x.operator(0, 0, -1));
        Bench.argument("with 16, the argument first", () -> x.operator(4, 0, -1));
        Bench.state("apply(15)", () -> x.apply(15));
        Bench.index("apply(16)", () -> x.apply(16));
    }

    private static void declare() {
        RuleForge x = new RuleForge();
        x.sort();
        x.sort();
        x.operator(0, 0, -1);
        x.operator(2, 0, -1);
        x.operator(3, 0, -1);
        Bench.due("declare(0), the others do not matter", x.declare(0, 0, 9, -9, 9), 1);
        Bench.due("declare(0) again", x.declare(0, 1, 0, 0, 0), 2);
        Bench.due("declare(0) once more", x.declare(0, 1, 0, 0, 0), 3);
        Bench.state("declare(0) with 3", () -> x.declare(0, 1, 0, 0, 0));
        Bench.index("no such result, the index first", () -> x.declare(0, 2, 0, 0, 0));
        Bench.due("declare(1), the third does not matter", x.declare(1, 0, 1, 1, 2), 1);
        Bench.index("no such second", () -> x.declare(1, 0, 1, 2, 0));
        Bench.index("no such first", () -> x.declare(1, 0, -1, 0, 0));
        Bench.index("no such third", () -> x.declare(2, 0, 0, 0, 2));
        Bench.index("no such operator", () -> x.declare(3, 0, 0, 0, 0));
        Bench.index("operator -1", () -> x.declare(-1, 0, 0, 0, 0));
        x.apply(0);
        Bench.due("the first one that fits", x.sortOf(), 0);
    }

    private static void term() {
        RuleForge x = new RuleForge();
        for (int i = 0; i < 10; i++) {
            Bench.due("term(" + i + ")", x.term(i), i + 1);
            Bench.due("its code", x.code(0), 1000 + i);
        }
        Bench.state("term(0) with 10", () -> x.term(0));
        Bench.argument("term(10), the argument first", () -> x.term(10));
        Bench.argument("term(-1)", () -> x.term(-1));
        Bench.argument("term(min)", () -> x.term(Integer.MIN_VALUE));
    }

    private static void apply() {
        Bench b = Bench.usual();
        Bench.due("FREE", b.form("h(a,x0,s(b))"), "h(a,x0,s(b))");
        Bench.due("the top is the last argument", b.form("g(b,a)"), "g(b,a)");
        Bench.due("FREE does not join", b.form("g(g(b,a),a)"), "g(g(b,a),a)");
        Bench.due("PAIR", b.form("p(b,a)"), "p(a,b)");
        Bench.due("PAIR does not join", b.form("p(p(b,a),a)"), "p(a,p(a,b))");
        Bench.due("ROW joins", b.form("r(r(b,a),r(c,a))"), "r(b,a,c,a)");
        Bench.due("ROW leaves the identity out", b.form("r(r(i,a),r(i,b))"), "r(a,b)");
        Bench.due("one is left", b.form("r(r(i,s(a)),r(i,i))"), "s(a)");
        Bench.due("none is left", b.form("r(i,i)"), "i");
        Bench.due("BAG", b.form("m(s(a),m(x3,m(a,x1)))"), "m(x1,x3,a,s(a))");
        Bench.due("lower operators ahead", b.form("m(g(a,a),s(h(a,a,a)))"), "m(s(h(a,a,a)),g(a,a))");
        Bench.due("fewer arguments ahead", b.form("m(r(a,b,c),r(b,c))"), "m(r(b,c),r(a,b,c))");
        Bench.due("the first that differs", b.form("m(g(a,c),g(a,b))"), "m(g(a,b),g(a,c))");
        Bench.due("variables ahead of all", b.form("m(g(a,a),g(x9,c))"), "m(g(x9,c),g(a,a))");
        Bench.due("another identity stays", b.form("m(o,a)"), "m(a,o)");
        Bench.due("5 arguments", b.form("m(e,d,c,b,a)"), "m(a,b,c,d,e)");
        Bench.due("two bags", b.form("m(m(e,d,c),m(b,a))"), "m(a,b,c,d,e)");
        b.x.drop();
        b.put("m(a,a,a,a,a)").put("a");
        Bench.state("6 arguments", () -> b.x.apply(b.number("m")));
        Bench.due("they are left", b.x.drop(), 2);
        b.put("r(a,a,a)").put("r(a,a,a)");
        Bench.state("3 and 3 arguments", () -> b.x.apply(b.number("r")));
        b.x.drop();
        b.put("m(a,a,a,a,a)").put("i");
        Bench.due("the identity is no sixth one", b.x.apply(b.number("m")), 1);
        Bench.due("a size of 20", b.form(Bench.times("s", 19, "a")).length(), 19 * 3 + 1);
        Bench.state("a size of 21", () -> b.x.apply(b.number("s")));
        Bench.due("it is left", b.x.code(19), 0);
        Bench.state("too few terms", () -> b.x.apply(b.number("g")));
        Bench.due("it is left, too", b.x.drop(), 1);
        Bench.index("no such operator", () -> b.x.apply(13));
        Bench.index("operator -1", () -> b.x.apply(-1));
        for (int i = 0; i < 10; i++) {
            b.x.apply(0);
        }
        Bench.state("a constant with 10", () -> b.x.apply(0));
        Bench.due("not more than 10", b.x.apply(b.number("s")), 10);
        Bench.due("h of three", b.x.apply(b.number("h")), 8);
        Bench.due("m of two", b.x.apply(b.number("m")), 7);
    }

    private static void slots() {
        Bench b = Bench.usual();
        b.put("s(a)").put("b");
        Bench.due("keep(0)", b.x.keep(0), 1);
        Bench.due("keep(19)", b.x.keep(19), 0);
        Bench.state("keep(0) without terms", () -> b.x.keep(0));
        Bench.argument("keep(20), the argument first", () -> b.x.keep(20));
        Bench.argument("keep(-1)", () -> b.x.keep(-1));
        Bench.due("load(19)", b.x.load(19), 1);
        Bench.due("what was kept", b.top(), "s(a)");
        Bench.due("load(19) again", b.x.load(19), 2);
        Bench.due("what was kept, again", b.top(), "s(a)");
        Bench.due("load(0)", b.x.load(0), 3);
        Bench.due("what was kept first", b.top(), "b");
        Bench.state("load(1)", () -> b.x.load(1));
        Bench.argument("load(20)", () -> b.x.load(20));
        Bench.argument("load(-1)", () -> b.x.load(-1));
        b.put("c");
        b.x.keep(0);
        b.x.load(0);
        Bench.due("kept in its place", b.top(), "c");
        for (int i = 4; i < 9; i++) {
            b.x.load(0);
        }
        Bench.due("load(0) with 9", b.x.load(0), 10);
        Bench.state("load(0) with 10", () -> b.x.load(0));
        Bench.due("drop() with 10", b.x.drop(), 10);
        Bench.due("drop() with none", b.x.drop(), 0);
        Bench.due("slots stay", b.x.load(0), 1);
    }

    private static void sortOf() {
        Bench b = new Bench();
        for (int i = 0; i < 4; i++) {
            b.x.sort();
        }
        b.x.below(0, 1);
        b.x.below(1, 2);
        b.x.variable(1, 1);
        b.x.variable(3, 3);
        int a = b.bare("a", 0, 0, "");
        b.bare("n", 0, 0, "");
        int f = b.bare("f", 1, 0, "");
        int p = b.bare("p", 2, RuleForge.PAIR, "");
        int r = b.bare("r", 2, RuleForge.ROW, "");
        int m = b.bare("m", 2, RuleForge.BAG, "");
        b.x.declare(a, 0, 0, 0, 0);
        b.x.declare(f, 1, 0, 0, 0);
        b.x.declare(f, 2, 1, 0, 0);
        b.x.declare(p, 1, 0, 3, 0);
        b.x.declare(r, 1, 0, 0, 0);
        b.x.declare(r, 2, 1, 0, 0);
        b.x.declare(r, 3, 2, 0, 0);
        b.x.declare(m, 1, 0, 3, 0);
        Bench.due("a variable", b.sort("x0"), 0);
        Bench.due("another variable", b.sort("x3"), 3);
        Bench.due("a constant", b.sort("a"), 0);
        Bench.due("without a declaration", b.sort("n"), -1);
        Bench.due("the first that fits", b.sort("f(a)"), 1);
        Bench.due("the next that fits", b.sort("f(f(a))"), 2);
        Bench.due("at or below", b.sort("f(x1)"), 2);
        Bench.due("none fits", b.sort("f(f(f(a)))"), -1);
        Bench.due("an argument has none", b.sort("f(n)"), -1);
        Bench.due("a PAIR", b.sort("p(a,x3)"), 1);
        Bench.due("a PAIR, x3 being ahead of a", b.sort("p(x3,a)"), 1);
        Bench.due("a PAIR that does not fit", b.sort("p(a,a)"), -1);
        Bench.due("a BAG is not turned round", b.sort("m(a,x3)"), -1);
        Bench.due("a BAG in its order", b.sort("m(x0,x3)"), 1);
        Bench.due("a ROW of 2", b.sort("r(a,a)"), 1);
        Bench.due("a ROW of 3", b.sort("r(a,a,a)"), 2);
        Bench.due("a ROW of 4", b.sort("r(a,a,a,a)"), 3);
        Bench.due("a ROW of 5", b.sort("r(a,a,a,a,a)"), -1);
        Bench.due("a ROW whose second one has none", b.sort("r(a,n,a)"), -1);
        Bench.due("a later variable", b.sort("r(a,x1)"), -1);
        b.x.drop();
        Bench.state("sortOf() without a top", () -> b.x.sortOf());
        RuleForge none = new RuleForge();
        none.term(4);
        Bench.due("without sorts a variable has the sort 0", none.sortOf(), 0);
    }

    private static void code() {
        Bench b = Bench.usual();
        b.put("h(m(a,b,x7),r(x2,x0),s(a))");
        int h = b.number("h"), m = b.number("m"), r = b.number("r"), s = b.number("s");
        int[] want = {10 * h + 3, 10 * m + 3, 1007, 0, 10, 10 * r + 2, 1002, 1000, 10 * s + 1, 0};
        for (int i = 0; i < want.length; i++) {
            Bench.due("code(" + i + ")", b.x.code(i), want[i]);
        }
        Bench.index("code(10)", () -> b.x.code(10));
        Bench.index("code(-1)", () -> b.x.code(-1));
        Bench.index("code(max)", () -> b.x.code(Integer.MAX_VALUE));
        b.x.drop();
        Bench.state("code(0) without a top", () -> b.x.code(0));
        Bench.state("code(-1) without a top", () -> b.x.code(-1));
    }

    public static void main(String[] args) {
        newObject();
        sort();
        below();
        variable();
        operator();
        declare();
        term();
        apply();
        slots();
        sortOf();
        code();
        Bench.end();
    }
}
