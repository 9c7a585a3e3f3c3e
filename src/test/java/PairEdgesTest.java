/** The sentences on pairs, weights, completion and copies (promises 34 to 40) that name a boundary, each by itself. */
public final class PairEdgesTest {
    private static final int MIN = Integer.MIN_VALUE, MAX = Integer.MAX_VALUE;

    /** The usual one with t of the arity 1. */
    private static Bench usual() {
        Bench b = Bench.usual();
        b.op("t", 1);
        return b;
    }

    private static String joined(Bench b) {
        StringBuilder all = new StringBuilder();
        int count = b.x.pairs();
        for (int i = 0; i < count; i++) {
            all.append(i == 0 ? "" : " ").append(b.x.joins(i));
        }
        return count + ": " + all;
    }

    // ---- pairs

    /** "If there is no such pair": of none, and of two. */
    private static void noPairs() {
        Bench b = usual();
        Bench.due("pairs() without equations", b.x.pairs(), 0);
        for (int pair : new int[] {MIN, -1, 0, MAX}) {
            Bench.index("joins(" + pair + ") without equations", () -> b.x.joins(pair));
        }
        b.equation("s(a)", "b");
        Bench.due("pairs() of one equation", b.x.pairs(), 0);
        Bench.index("joins(0) of one equation", () -> b.x.joins(0));
        b.equation("s(x0)", "b");
        Bench.due("two equations", joined(b), "2: 1 1");
        for (int pair : new int[] {MIN, -1, 2, MAX}) {
            Bench.index("joins(" + pair + ") of 2", () -> b.x.joins(pair));
        }
    }

    /** "Not the place of the whole for an equation and itself", but that of another one, and places below. */
    private static void places() {
        Bench b = usual();
        b.equation("g(x0,x1)", "a");
        Bench.due("the whole of itself", b.x.pairs(), 0);
        b.equation("g(x0,x1)", "a");
        Bench.due("the whole of another one that is the same", joined(b), "2: 1 1");
        Bench below = usual();
        below.equation("g(g(x0,a),x1)", "a");
        Bench.due("below in itself", below.x.pairs(), 1);
        Bench last = usual();
        last.equation("g(x0,a)", "b");
        last.equation("a", "c");
        Bench.due("the last place, and none that is a variable", last.x.pairs(), 1);
        Bench deep = usual();
        deep.equation(Bench.times("s", 19, "a"), "b");
        deep.equation("a", "c");
        Bench.due("the place 19", joined(deep), "1: 0");
    }

    /** "Two equations without conditions, of whose left sides all operators are FREE". */
    private static void openEquations() {
        for (String other : new String[] {"p(x1,a)", "r(x1,a)", "m(x1,a)"}) {
            Bench b = usual();
            b.equation("g(s(x0)," + other + ")", "b");
            b.equation("s(a)", "c");
            b.equation("g(x0,x1)", "c");
            Bench.due(other + " on the left", b.x.pairs(), 0);
            b.equation("s(x1)", other);
            Bench.due(other + " on the right", b.x.pairs(), 2);
        }
        for (int k = 0; k < 4; k++) {
            Bench b = usual();
            equation(b, "s(a)", k % 2 == 1);
            equation(b, "s(x0)", k / 2 == 1);
            Bench.due("conditions " + k, b.x.pairs(), k == 0 ? 2 : 0);
        }
    }

    private static void equation(Bench b, String left, boolean hasCondition) {
        if (hasCondition) {
            b.equation(left, "b", "b", "b");
        } else {
            b.equation(left, "b");
        }
    }

    /** "At which it can be made the same ..., by terms in place of variables": no term has a variable that it is given for. */
    private static void unlike() {
        pairsOf(2, "s(x0)", "s(x0)");
        pairsOf(2, "g(x0,a)", "g(b,x0)");
        pairsOf(0, "g(x0,a)", "g(x0,b)");
        pairsOf(0, "g(x0,x0)", "g(a,b)");
        pairsOf(2, "g(x0,x0)", "g(a,a)");
        pairsOf(0, "g(x0,x0)", "g(x1,s(x1))");
        pairsOf(0, "g(x0,s(x0))", "g(x1,x1)");
        pairsOf(2, "g(x0,s(x1))", "g(x1,x1)");
        pairsOf(0, "h(x0,x1,x0)", "h(x1,s(x1),s(x1))");
        pairsOf(2, "h(x0,x0,x1)", "h(x0,x1,x0)");
        pairsOf(1, "s(t(x0))", "t(a)");
        pairsOf(1, "s(t(x0))", "t(x0)");
        pairsOf(0, "s(t(b))", "t(a)");
        pairsOf(0, "s(x0)", "t(a)");
    }

    private static void pairsOf(int due, String one, String other) {
        Bench b = usual();
        b.equation(one, "o");
        b.equation(other, "o");
        Bench.due("pairs of " + one + " and " + other, b.x.pairs(), due);
    }

    /** "Of two variables the one with the higher number being given the other one", and in all that was given before. */
    private static void given() {
        Bench least = usual();
        least.equation("g(x0,x1)", "x0");
        least.equation("g(x0,a)", "x0");
        Bench.due("both members the variable 0", joined(least), "2: 1 1");
        Bench later = usual();
        later.equation("g(s(x0),x0)", "s(x0)");
        later.equation("g(x0,a)", "x0");
        Bench.due("what a variable was given before has one that is given something", joined(later), "2: 1 1");
        Bench sorts = new Bench();
        sorts.x.sort();
        sorts.x.sort();
        sorts.x.variable(9, 1);
        sorts.constants("a b");
        sorts.op("t", 1);
        sorts.op("g", 2);
        sorts.equation("g(x9,a)", "t(x9)");
        sorts.equation("g(x8,x7)", "t(b)");
        sorts.equation("t(x8)", "b");
        Bench.due("9 stays, not 18, which has another sort", joined(sorts), "2: 0 1");
    }

    /** "Conditions within conditions more than 3 deep", when members are reduced. */
    private static void deepMembers() {
        for (int deep = 3; deep <= 4; deep++) {
            for (int side = 0; side < 2; side++) {
                Bench b = new Bench();
                b.x.sort();
                b.constants("k0 k1 k2 k3 k4 o a b");
                b.op("g", 2);
                b.equation("g(x0,a)", side == 0 ? "k" + (4 - deep) : "o");
                b.equation("g(b,x0)", side == 0 ? "o" : "k" + (4 - deep));
                for (int i = 0; i < 4; i++) {
                    b.equation("k" + i, "o", "k" + (i + 1), "o");
                }
                b.equation("k4", "o");
                Bench.due(deep + " deep in the member " + side, joined(b), deep == 3 ? "2: 1 1" : "2: -2 -2");
            }
        }
    }

    /** "Only the first 60 count": 59, 60 and 61. */
    private static void sixtyPairs() {
        exactly(59, 1, "t(t(x0))", "x0");
        exactly(60, 1, "t(x0)", "a", "t(b)", "a");
        exactly(61, 0, "t(t(t(x0)))", "a", "t(b)", "a");
    }

    /** Eight equations have 56 pairs, and two others 2. */
    private static void exactly(int count, int last, String... others) {
        Bench b = usual();
        for (int i = 0; i < 8; i++) {
            b.equation("g(x0,x1)", "a");
        }
        b.equation("s(x0)", "a");
        b.equation("s(b)", "a");
        for (int i = 0; i < others.length; i += 2) {
            b.equation(others[i], others[i + 1]);
        }
        int due = Math.min(count, 60);
        Bench.due("pairs() of " + count, b.x.pairs(), due);
        Bench.due("the last one of " + count, b.x.joins(due - 1), last);
        Bench.index("behind it", () -> b.x.joins(due));
        Bench.due("complete() with " + count, b.x.complete(), 0);
    }

    /** "Pairs of which a member would be too large, or the term that both come from, do not count." */
    private static void sizes() {
        for (int k = 7; k <= 9; k++) {
            String of = Bench.times("t", k, "b");
            overlap("the term of " + (2 * k + 4), k <= 8 ? 1 : 0, "g(s(x0),x0)", "a", "s(" + of + ")", "a");
            overlap("the term of " + (2 * k + 5), k <= 7 ? 2 : 0, "g(s(x0),s(x0))", "a", "s(" + of + ")", "a");
            overlap("the first member of " + (2 * k + 4), k <= 8 ? 1 : 0, "s(g(x0,x1))", "h(x0,x0,x1)", "g(" + of + ",c)", "a");
            overlap("the first member of " + (2 * k + 5), k <= 7 ? 1 : 0, "s(g(x0,x1))", "h(x0,x0,x1)", "g(" + of + ",s(c))", "a");
        }
        for (int k = 17; k <= 19; k++) {
            overlap("the second member of " + (k + 2), k <= 18 ? 1 : 0, "s(g(x0,a))", "b", "g(x0,x1)", Bench.times("t", k, "x0"));
        }
        overlap("a first member with 5 arguments", 1, "s(g(x0,x1))", "m(x0,r(x1,m(a,a,a,a)))", "g(b,i)", "a");
        overlap("a first member with 6 arguments", 0, "s(g(x0,x1))", "m(x0,x0,r(x1,m(a,a,a,a)))", "g(b,i)", "a");
        overlap("the same without the identity", 1, "s(g(x0,x1))", "m(x0,x0,r(x1,m(a,a,a,a)))", "g(b,o)", "a");
        overlap("a second member with 6 arguments", 0, "s(g(b,i))", "a", "g(x0,x1)", "m(x0,x0,r(x1,m(a,a,a,a)))");
    }

    private static void overlap(String what, int due, String left, String right, String otherLeft, String otherRight) {
        Bench b = usual();
        b.equation(left, right);
        b.equation(otherLeft, otherRight);
        Bench.due(what, b.x.pairs(), due);
    }

    /** "FAILED if reducing fails": 60 steps for each member by itself, and one more for the first or the second. */
    private static void stepsOfMembers() {
        for (int first = 60; first <= 61; first++) {
            for (int second = 60; second <= 61; second++) {
                Bench b = new Bench();
                b.x.sort();
                b.constants("k0 k1 k2 k3 k4 k5 k6 a b");
                b.op("s", 1);
                b.op("f", 2);
                b.op("g", 2);
                b.equation("g(x0,a)", stepsOf(first));
                b.equation("g(b,x0)", stepsOf(second));
                for (int i = 0; i < 6; i++) {
                    b.equation("k" + i, "k" + (i + 1));
                }
                b.equation("s(x0)", "x0");
                boolean isDue = first == 60 && second == 60;
                Bench.due("members of " + first + " and " + second + " steps", joined(b), isDue ? "2: 1 1" : "2: -2 -2");
            }
        }
    }

    private static String stepsOf(int count) {
        String sixty = "f(".repeat(9) + "k0" + ",k0)".repeat(9);
        return count == 60 ? sixty : "s(" + sixty + ")";
    }

    // ---- weights

    /** "Its own, 0 to 9, 1 at first, and one for each argument, 1 to 3, 1 at first." */
    private static void weights() {
        Bench b = usual();
        for (String name : new String[] {"a", "s", "g", "h", "p", "r", "m"}) {
            int o = b.number(name);
            int arity = name.equals("a") ? 0 : name.equals("s") ? 1 : name.equals("h") ? 3 : 2;
            for (int k = 0; k <= arity; k++) {
                int place = k, least = k == 0 ? 0 : 1, most = k == 0 ? 9 : 3;
                Bench.due("the weight of " + name + " at first", b.x.weight(o, k, most), 1);
                Bench.due("the most", b.x.weight(o, k, least), most);
                for (int weight : new int[] {MIN, least - 1, most + 1, MAX}) {
                    Bench.argument("a weight of " + weight, () -> b.x.weight(o, place, weight));
                }
                Bench.due("the least", b.x.weight(o, k, 2), least);
                Bench.due("another one", b.x.weight(o, k, 1), 2);
            }
            for (int place : new int[] {MIN, -1, arity + 1, MAX}) {
                Bench.index("the place " + place + " of " + name, () -> b.x.weight(o, place, 1));
            }
        }
        for (int operator : new int[] {MIN, -1, b.number("t") + 1, MAX}) {
            Bench.index("the operator " + operator, () -> b.x.weight(operator, 0, 1));
        }
        RuleForge x = new RuleForge();
        Bench.index("without operators", () -> x.weight(0, 0, 1));
    }

    /** "If its number is greater, and each variable comes at least as many times." */
    private static void above() {
        Bench b = usual();
        descends("a greater number", b, true, "s(s(a))", "s(a)");
        descends("the same number", b, false, "s(a)", "t(a)");
        descends("a smaller number", b, false, "a", "s(a)");
        descends("a variable as often", b, true, "s(g(x0,x0))", "g(x0,x0)");
        descends("a variable once less", b, false, "s(s(s(x0)))", "g(x0,x0)");
        descends("one of three once less", b, false, "s(h(x0,x1,x2))", "h(x2,x2,x0)");
        descends("a variable once more", b, true, "s(h(x0,x0,x0))", "g(x0,x0)");
        descends("no variable any more", b, true, "h(x0,x1,x9)", "x1");
        descends("a variable, but the same number", b, false, "g(x0,x9)", "a");
        b.x.weight(b.number("g"), 0, 2);
        Bench.due("then it is greater by one", b.x.descends(8), true);
        b.x.weight(b.number("a"), 0, 2);
        Bench.due("then it is the same again", b.x.descends(8), false);
        b.x.weight(b.number("s"), 0, 0);
        descends("nothing is not greater than nothing", b, false, "s(x0)", "x0");
        for (int equation : new int[] {MIN, -1, 10, MAX}) {
            Bench.index("descends(" + equation + ") of 10", () -> b.x.descends(equation) ? 1 : 0);
        }
        Bench none = usual();
        for (int equation : new int[] {MIN, -1, 0, MAX}) {
            Bench.index("descends(" + equation + ") of none", () -> none.x.descends(equation) ? 1 : 0);
        }
    }

    private static void descends(String what, Bench b, boolean due, String left, String right) {
        Bench.due(what, b.x.descends(b.equation(left, right)), due);
    }

    /** "Of a ROW or BAG with more than two arguments of the first two so, then of that and the third one". */
    private static void rows() {
        for (String o : new String[] {"r", "m"}) {
            Bench b = usual();
            b.x.weight(b.number(o), 0, 5);
            b.x.weight(b.number(o), 1, 2);
            b.x.weight(b.number(o), 2, 3);
            b.x.weight(b.number("b"), 0, 0);
            b.x.weight(b.number("t"), 0, 0);
            b.x.weight(b.number("t"), 1, 2);
            int[] values = {10, 28, 64, 136};
            String term = o + "(a,a)";
            for (int k = 0; k < 4; k++) {
                descends("the value " + values[k] + " of " + (k + 2), b, true, term, valued(values[k] - 1));
                descends("not more than " + values[k], b, false, term, valued(values[k]));
                term = term.replace(")", ",a)");
            }
        }
    }

    /** A term that has the value, where b is worth 0, s adds 1 to one, and t takes one twice. */
    private static String valued(int value) {
        String term = "b";
        for (int bit = 7; bit >= 0; bit--) {
            term = term.equals("b") ? term : "t(" + term + ")";
            term = (value >> bit & 1) == 1 ? "s(" + term + ")" : term;
        }
        return term;
    }

    /** Numbers that are greater than the greatest int. */
    private static void greatNumbers() {
        Bench b = usual();
        int s = b.number("s"), t = b.number("t"), a = b.number("a");
        b.x.weight(s, 0, 9);
        b.x.weight(s, 1, 3);
        b.x.weight(t, 0, 9);
        b.x.weight(t, 1, 3);
        b.x.weight(a, 0, 9);
        String great = Bench.times("s", 19, "a");
        descends("15690529800 and 1", b, true, great, "b");
        descends("1 and 15690529800", b, false, "b", great);
        descends("the same great number", b, false, great, Bench.times("t", 19, "a"));
        descends("a third of that", b, true, great, Bench.times("t", 18, "a"));
        b.x.weight(b.number("b"), 0, 8);
        descends("less by 3 to the power of 19", b, true, great, Bench.times("t", 19, "b"));
        descends("more by that", b, false, Bench.times("t", 19, "b"), great);
        descends("a variable as often", b, false, Bench.times("s", 19, "x0"), Bench.times("t", 19, "x0"));
        b.x.weight(t, 0, 8);
        Bench.due("then its number is greater", b.x.descends(6), true);
    }

    // ---- completion

    /** "It ends, too, if all pairs join", or there are none. */
    private static void nothingToDo() {
        Bench b = usual();
        Bench.due("without equations", b.x.complete(), 0);
        b.equation("s(x0)", "b");
        Bench.due("without pairs", b.x.complete(), 0);
        b.equation("s(a)", "b");
        Bench.due("all join", b.x.complete(), 0);
        Bench.due("equations()", b.x.equations(), 2);
        b.equation("s(c)", "d");
        b.x.weight(b.number("d"), 0, 2);
        Bench.due("one does not", b.x.complete(), 1);
        Bench.due("equations()", b.x.equations(), 4);
        Bench.due("the new one", b.reduced("d"), "1 b");
        Bench.due("again", b.x.complete(), 0);
    }

    /** "If the one of both normal forms of its members is above the other one": by one, or not at all. */
    private static void oriented() {
        for (int k = 0; k < 3; k++) {
            Bench b = usual();
            b.equation("s(a)", "c");
            b.equation("s(x0)", "d");
            b.x.weight(b.number("c"), 0, k);
            Bench.due("weights of " + k + " and 1", b.x.complete(), k == 1 ? 0 : 1);
            Bench.due("which way", b.reduced("g(c,d)").substring(2), k == 0 ? "g(c,c)" : k == 1 ? "g(c,d)" : "g(d,d)");
        }
        Bench variables = usual();
        variables.equation("g(s(x0),x1)", "s(s(x0))");
        variables.equation("g(x0,s(x1))", "s(x1)");
        Bench.due("each has a variable that the other one has not", variables.x.complete(), 0);
    }

    /** "If there are 12 equations": 10, 11 and 12, of which one or two are wanted. */
    private static void twelveEquations() {
        for (int count = 10; count <= 12; count++) {
            Bench b = usual();
            for (int i = 3; i < count; i++) {
                b.equation("o", "o", "a", "b");
            }
            b.equation("s(a)", "b");
            b.equation("s(x0)", "c");
            b.equation("s(e)", "d");
            b.x.weight(b.number("b"), 0, 2);
            b.x.weight(b.number("d"), 0, 2);
            Bench.due("complete() with " + count, b.x.complete(), 12 - count);
            Bench.due("equations()", b.x.equations(), 12);
        }
    }

    /** "If that can be one": of three variables, not of four. */
    private static void threeVariables() {
        Bench b = usual();
        b.equation("g(s(x0),x1)", "a");
        b.equation("s(h(x2,x3,b))", "h(x2,x3,b)");
        Bench.due("three", b.x.complete(), 1);
        Bench.due("the new one", b.reduced("g(h(c,d,b),e)"), "1 a");
        Bench c = usual();
        c.equation("g(s(x0),x1)", "a");
        c.equation("s(h(x2,x3,x4))", "h(x2,x3,x4)");
        Bench.due("four", c.x.complete(), 0);
        Bench.due("equations()", c.x.equations(), 2);
    }

    /** "The lowest one, not given yet, that has the same sort; if there is none, it ends." */
    private static void newNumbers() {
        for (int count = 2; count <= 4; count++) {
            Bench b = new Bench();
            b.x.sort();
            b.x.sort();
            for (int v = 0; v < 10; v++) {
                b.x.variable(v, v < 3 || v >= 3 + count ? 0 : 1);
            }
            b.constants("a b");
            int c = b.bare("c", 0, 0, "");
            b.x.declare(c, 1, 0, 0, 0);
            b.op("s", 1);
            b.op("g", 2);
            b.op("h", 3);
            b.equation("g(s(x0),x3)", "a");
            b.equation("s(h(x3,x4,b))", "h(x3,x4,b)");
            Bench.due("three of a sort that " + count + " have", b.x.complete(), count >= 3 ? 1 : 0);
            Bench.due("the new one", b.reduced("g(h(c,c,b),c)"), count >= 3 ? "1 a" : "0 g(h(c,c,b),c)");
            Bench.due("no other sort", b.reduced("g(h(c,a,b),c)"), "0 g(h(c,a,b),c)");
        }
    }

    /** "In the order in which they come first": the lowest variable of the new equation is the first one in it. */
    private static void orderOfNumbers() {
        Bench b = usual();
        b.op("n", 2, RuleForge.BAG, "");
        b.equation("t(h(x3,x4,x1))", "g(n(x3,x4),n(x1,x3))");
        b.equation("t(h(x3,x4,x1))", "x3");
        Bench.due("complete()", b.x.complete(), 1);
        Bench.due("the first match has the first variable's lowest term", b.reduced("g(n(a,b),n(a,b))"), "1 a");
        Bench.due("the other variables", b.reduced("g(n(c,b),n(a,b))"), "1 b");
        Bench only = new Bench();
        only.x.sort();
        only.x.sort();
        only.x.variable(0, 1);
        int c = only.bare("c", 0, 0, "");
        only.x.declare(c, 1, 0, 0, 0);
        only.constants("a");
        only.op("t", 1);
        only.op("g", 2);
        only.equation("g(x0,a)", "t(x0)");
        only.equation("g(x0,a)", "x0");
        Bench.due("the variable 0 is the only one of its sort", only.x.complete(), 1);
        Bench.due("the new one", only.reduced("t(c)"), "1 c");
        Bench.due("not for another sort", only.reduced("t(a)"), "0 t(a)");
        Bench matched = usual();
        matched.equation("g(x3,a)", "h(s(s(b)),x3,a)");
        matched.equation("g(x3,a)", "x3");
        matched.equation("s(s(x3))", "s(x3)");
        Bench.due("what a variable was given when the members were reduced is no matter", matched.x.complete(), 1);
        Bench.due("the new one", matched.reduced("h(s(b),c,a)"), "1 c");
        Bench higher = usual();
        higher.equation("s(t(x0))", "t(x0)");
        higher.equation("t(s(x0))", "x0");
        Bench.due("a pair of the variable 10", higher.x.complete() > 0, true);
        Bench.due("s takes nothing away", higher.reduced("s(c)"), "1 c");
    }

    /** "Behind 300 steps that it took": what was taken before does not count. */
    private static void stepsBefore() {
        for (int calls = 0; calls <= 20; calls += 10) {
            Bench b = new Bench();
            b.x.sort();
            b.constants("k0 k1 k2 k3 k4 k5 k6 a b c");
            b.op("s", 1);
            b.op("f", 2);
            b.op("g", 2);
            String twelve = "f(k0,k0)";
            b.equation("g(x0,a)", twelve);
            b.equation("g(a,x0)", twelve);
            b.equation("s(a)", "b");
            b.equation("s(x0)", "c");
            for (int i = 0; i < 6; i++) {
                b.equation("k" + i, "k" + (i + 1));
            }
            for (int i = 0; i < calls; i++) {
                Bench.due("joins(0)", b.x.joins(0), 1);
            }
            Bench.due("complete() that adds none", b.x.complete(), 0);
            b.x.weight(b.number("b"), 0, 2);
            Bench.due("complete() behind " + calls + " calls of joins()", b.x.complete(), 1);
        }
    }

    /** "If reducing fails": of a pair ahead of one that does not join, not of one behind it. */
    private static void failing() {
        for (int k = 0; k < 2; k++) {
            Bench b = usual();
            if (k == 0) {
                b.equation("t(x0)", "e");
                b.equation("t(a)", "e");
            }
            b.equation("s(a)", "b");
            b.equation("s(x0)", "c");
            if (k == 1) {
                b.equation("t(x0)", "e");
                b.equation("t(a)", "e");
            }
            b.equation("e", "e");
            b.x.weight(b.number("b"), 0, 2);
            Bench.due("a pair that fails, " + k, b.x.complete(), k);
        }
    }

    /** "If it would look at a pair behind 300 steps that it took": behind 293 to 303. */
    private static void threeHundredSteps() {
        Bench.due("behind 293", completed(293, "k6", "k5"), 1);
        Bench.due("behind 297", completed(297, "k5", "k5"), 1);
        Bench.due("behind 299", completed(299, "k6", "k3"), 1);
        Bench.due("behind 300", completed(300, "k5", "k4"), 0);
        Bench.due("behind 303", completed(303, "k5", "k3"), 0);
    }

    /**
     * Three equations, the right side of each of which is a member of four pairs, and one whose two pairs take
     * two steps for k6, and three more for each one below; behind these is a pair that becomes an equation.
     */
    private static int completed(int steps, String last, String second) {
        Bench b = new Bench();
        b.x.sort();
        b.constants("k2 k3 k4 k5 k6 a b c");
        b.op("s", 1);
        b.op("t", 1);
        b.op("f", 2);
        b.op("g", 2);
        String six = "f(".repeat(6) + "k2" + ",k2)".repeat(5);
        b.equation("g(x0,a)", six + ",k6)");
        b.equation("g(a,x0)", six + ",k6)");
        b.equation("g(a,a)", six + "," + last + ")");
        b.equation("t(t(x0))", second);
        b.equation("t(k6)", "k6");
        b.equation("s(a)", "b");
        b.equation("s(x0)", "c");
        for (int i = 2; i < 6; i++) {
            b.equation("k" + i, "k" + (i + 1));
        }
        b.x.weight(b.number("b"), 0, 2);
        int taken = 8 * stepsIn(b, six + ",k6)") + 4 * stepsIn(b, six + "," + last + ")");
        Bench.due("the steps ahead of it", taken + 2 + 3 * stepsIn(b, second), steps);
        return b.x.complete();
    }

    private static int stepsIn(Bench b, String term) {
        return Integer.parseInt(b.reduced(term).split(" ")[0]);
    }

    // ---- views and copies

    /** "By which operator another one is replaced", "perhaps the same". */
    private static void views() {
        Bench b = usual();
        int count = b.number("t") + 1, s = b.number("s"), t = b.number("t");
        for (int k = 0; k < count; k++) {
            Bench.due("each for itself at first", b.x.view(k, k), k);
        }
        for (int operator : new int[] {MIN, -1, count, MAX}) {
            Bench.index("view(" + operator + ", 0)", () -> b.x.view(operator, 0));
            Bench.index("view(0, " + operator + ")", () -> b.x.view(0, operator));
        }
        Bench.due("another one", b.x.view(s, t), s);
        Bench.due("the same again", b.x.view(s, s), t);
        Bench.due("the other one is as it was", b.x.view(t, s), t);
        String[] kinds = {"a", "s", "g", "h", "p", "r", "m"};
        for (String one : kinds) {
            for (String other : kinds) {
                if (!one.equals(other)) {
                    Bench.argument("view(" + one + ", " + other + ")", () -> b.x.view(b.number(one), b.number(other)));
                }
            }
        }
        RuleForge x = new RuleForge();
        Bench.index("without operators", () -> x.view(0, 0));
    }

    /** "If there are 12": 11 and 12. */
    private static void twelveCopies() {
        Bench b = usual();
        for (int equation : new int[] {MIN, -1, 0, MAX}) {
            Bench.index("copy(" + equation + ") of none", () -> b.x.copy(equation));
        }
        b.equation("s(x0)", "x0");
        b.x.view(b.number("s"), b.number("t"));
        for (int i = 1; i < 12; i++) {
            Bench.due("copy(0)", b.x.copy(0), i);
        }
        Bench.state("copy(0) with 12", () -> b.x.copy(0));
        Bench.state("copy(11) with 12", () -> b.x.copy(11));
        for (int equation : new int[] {MIN, -1, 12, MAX}) {
            Bench.index("copy(" + equation + ") with 12", () -> b.x.copy(equation));
        }
        Bench.due("equations()", b.x.equations(), 12);
        Bench.due("the first and the copies", b.reduced("s(t(a))"), "2 a");
    }

    /** "To copy an equation": whatever its variables were given in the calls before. */
    private static void copiesAfterMatches() {
        Bench b = usual();
        b.equation("g(x0,x1)", "x1", "x0", "x0");
        b.equation("s(s(x0))", "s(x0)");
        b.x.view(b.number("g"), b.number("g"));
        b.put("g(x0,x1)").put("g(c,d)");
        Bench.due("a match", b.x.match(0, 0), 3);
        Bench.due("a copy", b.x.copy(0), 2);
        Bench.due("no pair but that of the other one", b.x.pairs(), 1);
        b.put("s(s(e))");
        Bench.due("steps", b.x.reduce(), 1);
        b.x.view(b.number("s"), b.number("t"));
        Bench.due("a copy of that", b.x.copy(1), 3);
        Bench.due("it is for all terms", b.reduced("t(t(a))"), "1 t(a)");
        b.put("g(a,b)");
        Bench.due("so is the first copy", b.x.matching(), 5);
        b.x.search();
        b.put("t(t(b))");
        Bench.due("and the last one", b.x.matching(), 8);
    }

    /** "The left side would be a variable", "or one would be too large". */
    private static void formsOfCopies() {
        Bench b = usual();
        b.op("n", 2, RuleForge.BAG, "");
        b.equation("m(x0,b)", "a");
        b.equation("m(x0,b,b)", "x0");
        b.equation("m(s(x0),b)", "x0");
        b.equation("m(x0,x1,b)", "x1");
        b.x.view(b.number("b"), b.number("i"));
        Bench.state("a variable is left", () -> b.x.copy(0));
        Bench.state("a variable is left of three", () -> b.x.copy(1));
        Bench.due("an operator is left", b.x.copy(2), 4);
        Bench.due("two variables are left", b.x.copy(3), 5);
        Bench.due("equations()", b.x.equations(), 6);
        Bench.due("what is left", b.matches("s(x0)", "s(a)"), "1 1");
        for (int k = 0; k < 4; k++) {
            for (int count = 4; count <= 6; count++) {
                copied(k, count);
            }
        }
    }

    /** One of the sides has a BAG in another one, which together have so many arguments. */
    private static void copied(int part, int count) {
        Bench b = usual();
        b.op("n", 2, RuleForge.BAG, "");
        b.x.view(b.number("n"), b.number("m"));
        String[] sides = {"s(x0)", "a", "b", "c"};
        sides[part] = "m(n(x0,a)" + ",b".repeat(count - 2) + ")";
        b.equation(sides[0], sides[1], sides[2], sides[3]);
        if (count <= 5) {
            Bench.due(count + " arguments in the part " + part, b.x.copy(0), 1);
        } else {
            Bench.state(count + " arguments in the part " + part, () -> b.x.copy(0));
        }
        Bench.due("equations()", b.x.equations(), count <= 5 ? 2 : 1);
    }

    public static void main(String[] args) {
        noPairs();
        places();
        openEquations();
        unlike();
        given();
        deepMembers();
        sixtyPairs();
        sizes();
        stepsOfMembers();
        weights();
        above();
        rows();
        greatNumbers();
        nothingToDo();
        oriented();
        twelveEquations();
        threeVariables();
        newNumbers();
        orderOfNumbers();
        failing();
        threeHundredSteps();
        stepsBefore();
        views();
        twelveCopies();
        copiesAfterMatches();
        formsOfCopies();
        Bench.end();
    }
}
