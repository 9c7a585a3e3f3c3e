/** Promises 34 to 40: critical pairs, weights, completion, views and copies. */
public final class PairsTest {
    private static String joined(Bench b) {
        StringBuilder all = new StringBuilder();
        int count = b.x.pairs();
        for (int i = 0; i < count; i++) {
            all.append(i == 0 ? "" : " ").append(b.x.joins(i));
        }
        return count + ": " + all;
    }

    private static void pairs() {
        Bench b = Bench.usual();
        Bench.index("joins(0) without equations", () -> b.x.joins(0));
        b.equation("s(s(x0))", "x0");
        Bench.due("with itself, below", joined(b), "1: 1");
        b.equation("s(a)", "b");
        Bench.due("in order", joined(b), "2: 1 0");
        b.equation("s(b)", "a");
        Bench.due("they join then", joined(b), "3: 1 1 1");
        Bench.index("joins(3)", () -> b.x.joins(3));
        Bench.index("joins(-1)", () -> b.x.joins(-1));
        Bench roots = Bench.usual();
        roots.equation("g(x0,a)", "b");
        roots.equation("g(c,x1)", "d");
        Bench.due("at the whole, of two, both ways", joined(roots), "2: 0 0");
        roots.equation("d", "b");
        Bench.due("they join, too", joined(roots), "2: 1 1");
        roots.equation("b", "b");
        Bench.due("reducing fails", joined(roots), "2: -2 -2");
        others();
        sortsOfPairs();
        numbers();
        sizes();
    }

    private static void others() {
        Bench none = Bench.usual();
        none.equation("m(s(a),x0)", "b");
        none.equation("s(a)", "c");
        Bench.due("not with a BAG", none.x.pairs(), 0);
        none.equation("s(x0)", "d", "x0", "x0");
        Bench.due("not with a condition", none.x.pairs(), 0);
        none.equation("g(x0,s(a))", "m(x0,s(a))");
        Bench.due("with a BAG on the right", joined(none), "1: 0");
        Bench occurs = Bench.usual();
        occurs.equation("g(x0,x0)", "a");
        occurs.equation("g(x0,s(x0))", "b");
        Bench.due("none in itself", occurs.x.pairs(), 0);
        Bench places = Bench.usual();
        places.equation("g(s(a),s(x0))", "s(x0)");
        places.equation("s(a)", "b");
        Bench.due("by places, of which one becomes larger", joined(places), "2: 0 0");
        places.equation("g(b,x0)", "x0");
        Bench.due("they join by a third one", joined(places), "2: 1 1");
    }

    /** Sorts do not count for pairs, but for reducing their members. */
    private static void sortsOfPairs() {
        Bench b = new Bench();
        b.x.sort();
        b.x.sort();
        b.x.variable(1, 1);
        b.constants("a b c");
        b.op("s", 1);
        b.op("t", 1);
        b.op("g", 2);
        b.equation("g(s(x1),x0)", "t(s(x1))");
        b.equation("s(t(x0))", "x0");
        b.equation("t(x1)", "a");
        Bench.due("whatever their sorts are", b.x.pairs(), 2);
        Bench.due("the variable of the sort 1 becomes one", b.x.joins(0), 0);
        Bench.due("the other one, too", b.x.joins(1), 0);
        Bench same = new Bench();
        same.x.sort();
        same.x.sort();
        same.x.variable(1, 1);
        same.constants("a b");
        same.op("g", 2);
        same.op("t", 1);
        same.equation("g(x0,a)", "t(x0)");
        same.equation("g(x1,x0)", "b");
        same.equation("t(x0)", "b");
        Bench.due("the higher number is given the lower one", joined(same), "2: 1 0");
    }

    private static void numbers() {
        Bench b = Bench.usual();
        b.equation("h(s(x0),x1,x2)", "g(x1,x2)");
        b.equation("s(g(x0,x1))", "g(x1,x0)");
        b.equation("h(x0,x1,x2)", "g(x1,x2)");
        Bench.due("10 more for the second one", joined(b), "3: 1 1 1");
        Bench many = Bench.usual();
        for (int i = 0; i < 9; i++) {
            many.equation("g(x0,x1)", "a");
        }
        Bench.due("60 of 72 pairs", many.x.pairs(), 60);
        Bench.due("the last one", many.x.joins(59), 1);
        Bench.index("joins(60)", () -> many.x.joins(60));
    }

    private static void sizes() {
        Bench b = Bench.usual();
        b.equation(Bench.times("s", 10, "x0"), "x0");
        Bench.due("the term of a size of 20 and below", b.x.pairs(), 9);
        Bench.due("they join", b.x.joins(0) + b.x.joins(8), 2);
        Bench source = Bench.usual();
        source.equation(Bench.times("s", 11, "x0"), "x0");
        Bench.due("the term that they come from too large", source.x.pairs(), 8);
        Bench member = Bench.usual();
        member.op("t", 1);
        member.equation("s(g(x0,x1))", "h(x0,x0,x0)");
        member.equation("g(" + Bench.times("t", 5, "x0") + ",a)", "a");
        Bench.due("a member of 19", member.x.pairs(), 1);
        member.equation("g(" + Bench.times("t", 6, "x0") + ",b)", "a");
        Bench.due("a member too large", member.x.pairs(), 1);
        Bench bag = Bench.usual();
        bag.equation("s(g(x0,x1))", "m(x0,x1,a,a,a)");
        bag.equation("g(a,b)", "a");
        Bench.due("5 arguments", joined(bag), "1: 0");
        bag.equation("g(a,i)", "s(a)");
        Bench.due("the identity left out", joined(bag), "2: 0 0");
    }

    private static void weights() {
        Bench b = Bench.usual();
        int s = b.number("s"), h = b.number("h"), a = b.number("a");
        Bench.due("at first", b.x.weight(h, 0, 9), 1);
        Bench.due("after that", b.x.weight(h, 0, 0), 9);
        Bench.due("of an argument", b.x.weight(h, 3, 3), 1);
        Bench.due("of that again", b.x.weight(h, 3, 1), 3);
        Bench.due("of another one", b.x.weight(h, 2, 2), 1);
        Bench.due("of a constant", b.x.weight(a, 0, 5), 1);
        Bench.due("its own one", b.x.weight(h, 0, 4), 0);
        Bench.index("weight(16)", () -> b.x.weight(16, 0, 1));
        Bench.index("weight(-1)", () -> b.x.weight(-1, 0, 1));
        Bench.index("no such place", () -> b.x.weight(s, 2, 1));
        Bench.index("place -1, the index first", () -> b.x.weight(s, -1, 99));
        Bench.index("a place of a constant", () -> b.x.weight(a, 1, 1));
        Bench.argument("10 of its own", () -> b.x.weight(s, 0, 10));
        Bench.argument("-1 of its own", () -> b.x.weight(s, 0, -1));
        Bench.argument("4 of an argument", () -> b.x.weight(s, 1, 4));
        Bench.argument("0 of an argument", () -> b.x.weight(s, 1, 0));
        Bench.due("unchanged", b.x.weight(s, 1, 2), 1);
    }

    private static boolean descends(Bench b, String left, String right) {
        return b.x.descends(b.equation(left, right));
    }

    private static void descends() {
        Bench b = Bench.usual();
        Bench.due("s(s(x0))", descends(b, "s(s(x0))", "x0"), true);
        Bench.due("as great", descends(b, "s(x0)", "s(x0)"), false);
        Bench.due("a variable more often", descends(b, "s(s(s(x0)))", "g(x0,x0)"), false);
        Bench.due("as often", descends(b, "s(g(x0,x0))", "g(x0,x0)"), true);
        Bench.due("the number below", descends(b, "g(x0,x1)", "s(s(x0))"), false);
        Bench.due("a variable less", descends(b, "g(x0,x1)", "x1"), true);
        Bench.index("descends(6)", () -> b.x.descends(6) ? 1 : 0);
        Bench.index("descends(-1)", () -> b.x.descends(-1) ? 1 : 0);
        b.x.weight(b.number("s"), 0, 0);
        Bench.due("another weight", b.x.descends(0), false);
        b.x.weight(b.number("g"), 1, 2);
        Bench.due("the weights of the arguments", descends(b, "g(x0,x1)", "g(x1,x0)"), false);
        b.x.weight(b.number("h"), 3, 3);
        Bench.due("of the third argument", descends(b, "h(s(a),a,x0)", "g(x0,x0)"), true);
        rows();
    }

    /** r(x0,x1,x2) is worth 1 + 2(1 + 2 x0 + 3 x1) + 3 x2. */
    private static void rows() {
        Bench b = Bench.usual();
        b.op("t", 1);
        int r = b.number("r"), s = b.number("s"), t = b.number("t"), o = b.number("o");
        b.x.weight(r, 1, 2);
        b.x.weight(r, 2, 3);
        b.x.weight(s, 0, 0);
        b.x.weight(s, 1, 2);
        b.x.weight(t, 0, 0);
        b.x.weight(t, 1, 3);
        Bench.due("4 of the first one", descends(b, "r(x0,x1,x2)", "s(s(x0))"), true);
        Bench.due("not more", descends(b, "r(x0,x1,x2)", "s(t(x0))"), false);
        Bench.due("6 of the second one", descends(b, "r(x0,x1,x2)", "s(t(x1))"), true);
        Bench.due("not more of that", descends(b, "r(x0,x1,x2)", "s(s(s(x1)))"), false);
        Bench.due("3 of the third one", descends(b, "r(x0,x1,x2)", "t(x2)"), true);
        Bench.due("not more of the third one", descends(b, "r(x0,x1,x2)", "s(s(x2))"), false);
        b.x.weight(o, 0, 2);
        Bench.due("a number of 3, above 2", descends(b, "r(x0,x1,x2)", "o"), true);
        b.x.weight(o, 0, 3);
        Bench.due("not above 3", b.x.descends(6), false);
        Bench.due("5 arguments: 16, 24, 12, 6, 3 and 15", descends(b, "r(x0,x0,x0,x1,x2)", "s(s(g(s(s(x0)),t(t(x0)))))"),
                true);
        Bench.due("not more of the first ones", descends(b, "r(x0,x0,x0,x1,x2)", "s(s(g(s(s(x0)),g(t(t(x0)),x0))))"),
                false);
    }

    private static void complete() {
        Bench b = Bench.usual();
        b.equation("g(x0,a)", "s(x0)");
        b.equation("g(b,x0)", "h(x0,x0,x0)");
        Bench.due("one more", b.x.complete(), 1);
        Bench.due("it goes down", b.reduced("h(a,a,a)"), "1 s(b)");
        Bench.due("equations()", b.x.equations(), 3);
        Bench.due("all join", joined(b), "2: 1 1");
        Bench.due("no more", b.x.complete(), 0);
        Bench equal = Bench.usual();
        equal.equation("s(a)", "b");
        equal.equation("s(x0)", "c");
        Bench.due("none above the other one", equal.x.complete(), 0);
        equal.x.weight(equal.number("b"), 0, 2);
        Bench.due("one above the other one", equal.x.complete(), 1);
        Bench.due("from that", equal.reduced("b"), "1 c");
        Bench full = Bench.usual();
        for (int i = 0; i < 10; i++) {
            full.equation("o", "o", "a", "b");
        }
        full.equation("s(a)", "b");
        full.equation("s(x0)", "c");
        full.x.weight(full.number("b"), 0, 2);
        Bench.due("12 equations", full.x.complete(), 0);
        Bench endless = Bench.usual();
        endless.equation("c", "c");
        endless.equation("s(a)", "b");
        endless.equation("s(x0)", "c");
        endless.x.weight(endless.number("b"), 0, 2);
        Bench.due("reducing fails", endless.x.complete(), 0);
        newNumbers(false);
        newNumbers(true);
        tooMany();
        steps(true);
        steps(false);
    }

    /** A pair that leads to an equation of two variables of the sort 1, which only x1, and perhaps x3, has. */
    private static void newNumbers(boolean isThree) {
        Bench b = new Bench();
        b.x.sort();
        b.x.sort();
        b.x.variable(1, 1);
        b.x.variable(3, isThree ? 1 : 0);
        b.constants("a b");
        int c = b.bare("c", 0, 0, "");
        b.x.declare(c, 1, 0, 0, 0);
        b.op("s", 1);
        b.op("g", 2);
        b.op("h", 3);
        b.equation("g(s(x2),x1)", "a");
        b.equation("s(h(x1,a,a))", "s(x1)");
        Bench.due("new numbers by sorts", b.x.complete(), isThree ? 1 : 0);
        Bench.due("an equation for the sort 1", b.reduced("g(s(c),c)"), isThree ? "1 a" : "0 g(s(c),c)");
        Bench.due("another one for the sort 0", b.reduced("g(s(b),c)"), "1 a");
    }

    private static void tooMany() {
        Bench b = Bench.usual();
        b.op("t", 1);
        b.equation("g(s(x0),h(x1,x2,a))", "a");
        b.equation("s(h(x0,x1,x2))", "h(x0,x1,x2)");
        Bench.due("an equation can not have five variables", b.x.complete(), 0);
        Bench variables = Bench.usual();
        variables.equation("g(s(x0),x1)", "x1");
        variables.equation("g(x0,o)", "s(x0)");
        Bench.due("one after the other", variables.x.complete(), 3);
        Bench.due("it has a new number", variables.reduced("s(s(a))"), "1 o");
    }

    /** Three equations of which each pair takes 96 steps, or two, and ahead of a pair that becomes one. */
    private static void steps(boolean isThree) {
        Bench b = new Bench();
        b.x.sort();
        b.constants("k0 k1 k2 k3 k4 k5 k6 a b c");
        b.op("s", 1);
        b.op("g", 2);
        b.op("f", 2);
        String four = "f(f(k0,k0),f(k0,k0))";
        b.equation("g(x0,a)", "f(" + four + "," + four + ")");
        b.equation("g(a,x0)", "f(" + four + "," + four + ")");
        if (isThree) {
            b.equation("g(a,a)", "f(" + four + "," + four + ")");
        }
        b.equation("s(a)", "b");
        b.equation("s(x0)", "c");
        for (int i = 0; i < 6; i++) {
            b.equation("k" + i, "k" + (i + 1));
        }
        b.x.weight(b.number("b"), 0, 2);
        Bench.due("pairs", b.x.pairs(), isThree ? 8 : 4);
        Bench.due("a pair behind 300 steps", b.x.complete(), isThree ? 0 : 1);
    }

    private static void copies() {
        Bench b = Bench.usual();
        b.op("t", 1);
        b.op("q", 2, RuleForge.ROW, "");
        int s = b.number("s"), t = b.number("t"), g = b.number("g"), m = b.number("m"), r = b.number("r");
        b.equation("g(s(x0),a)", "s(s(x0))", "x0", "s(a)");
        Bench.due("view(s, t)", b.x.view(s, t), s);
        Bench.due("view(s, t) again", b.x.view(s, t), t);
        Bench.due("view(a, b)", b.x.view(0, 1), 0);
        Bench.due("copy(0)", b.x.copy(0), 1);
        Bench.due("all of it is replaced", b.reduced("g(t(t(b)),b)"), "2 t(t(t(b)))");
        Bench.due("also its condition", b.reduced("g(t(c),b)"), "1 g(t(c),b)");
        Bench.due("the first one stays", b.reduced("g(s(s(a)),a)"), "2 s(s(s(a)))");
        Bench.due("back", b.x.view(s, s), t);
        Bench.due("back it is", b.x.view(s, s), s);
        Bench.index("view(no)", () -> b.x.view(16, s));
        Bench.index("view(to no)", () -> b.x.view(s, 16));
        Bench.index("view(-1)", () -> b.x.view(-1, -1));
        Bench.argument("another arity", () -> b.x.view(s, g));
        Bench.argument("other axioms", () -> b.x.view(g, m));
        Bench.argument("other axioms, too", () -> b.x.view(m, r));
        Bench.due("another identity is no matter", b.x.view(r, b.number("q")), r);
        Bench.index("copy(2)", () -> b.x.copy(2));
        Bench.index("copy(-1)", () -> b.x.copy(-1));
        forms();
    }

    private static void forms() {
        Bench b = Bench.usual();
        b.op("q", 2, RuleForge.ROW, "");
        b.equation("p(x0,b)", "m(a,x0)");
        b.x.view(b.number("b"), b.number("a"));
        b.x.view(b.number("a"), b.number("d"));
        Bench.due("a copy", b.x.copy(0), 1);
        Bench.due("all at once, put in order anew", b.reduced("p(a,c)"), "1 m(c,d)");
        b.x.view(b.number("a"), b.number("i"));
        Bench.due("a copy with an identity", b.x.copy(0), 2);
        Bench.due("it is left out, and the first equation comes first", b.reduced("p(c,a)"), "1 m(c,d)");
        b.equation("m(x0,a)", "b");
        Bench.state("the left side would be a variable", () -> b.x.copy(3));
        Bench.due("none is added", b.x.equations(), 4);
        b.equation("r(q(a,b,c),b,c,d)", "a");
        b.x.view(b.number("q"), b.number("r"));
        b.x.view(b.number("a"), b.number("a"));
        Bench.state("too many arguments", () -> b.x.copy(4));
        b.equation("r(q(a,b,c),b,c)", "a");
        Bench.due("5 arguments", b.x.copy(5), 6);
        b.equation("s(x0)", "r(q(x0,b,c),b,c,d)");
        Bench.state("the right side too large", () -> b.x.copy(7));
        for (int i = 8; i < 12; i++) {
            Bench.due("copy(1)", b.x.copy(1), i);
        }
        Bench.state("copy() with 12", () -> b.x.copy(1));
        Bench.index("copy(12), the index first", () -> b.x.copy(12));
        Bench.due("12 equations", b.x.equations(), 12);
    }

    public static void main(String[] args) {
        pairs();
        weights();
        descends();
        complete();
        copies();
        Bench.end();
    }
}
