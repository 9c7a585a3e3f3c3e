/** The sentences on sorts, operators and terms (promises 1 to 13) that name a boundary, each by itself. */
public final class TermEdgesTest {
    private static final int MIN = Integer.MIN_VALUE, MAX = Integer.MAX_VALUE;
    private static final int NONE = RuleForge.NONE;

    // ---- sorts

    /** "Sorts are numbered from 0, at most 8." */
    private static void eightSorts() {
        RuleForge x = new RuleForge();
        for (int i = 0; i < 7; i++) {
            Bench.due("sort()", x.sort(), i);
        }
        Bench.index("the eighth is not there yet", () -> x.variable(0, 7));
        Bench.due("the eighth", x.sort(), 7);
        Bench.due("it is there", x.variable(0, 7), 0);
        Bench.state("no ninth", () -> x.sort());
        Bench.state("still no ninth", () -> x.sort());
        Bench.index("it is not there", () -> x.variable(0, 8));
        Bench.due("the eighth is the last one", x.variable(0, 0), 7);
    }

    /** "It is at or below itself, all that it is told to be below, and what these are below, and so on." */
    private static void chainsOfSorts() {
        int[][] orders = {{0, 1, 2, 3, 4, 5, 6}, {6, 5, 4, 3, 2, 1, 0}, {3, 1, 5, 0, 6, 2, 4}};
        for (int[] order : orders) {
            RuleForge x = withSorts(8);
            for (int k : order) {
                Bench.due("below(" + k + ", " + (k + 1) + ")", x.below(k, k + 1), false);
            }
            int already = 0;
            for (int k = 0; k < 64; k++) {
                already += k / 8 < k % 8 && x.below(k / 8, k % 8) ? 1 : 0;
            }
            Bench.due("each of the 28 pairs is below already", already, 28);
        }
        RuleForge x = withSorts(4);
        x.below(0, 1);
        x.below(2, 3);
        Bench.due("not by others yet", x.below(0, 3), false);
        Bench.due("not between them", x.below(1, 2), false);
        Bench.due("by others then", x.below(0, 2), true);
        Bench.due("from the middle", x.below(1, 3), true);
    }

    /** "No sort is ever below itself." */
    private static void noRingOfSorts() {
        for (int length = 1; length <= 8; length++) {
            RuleForge x = withSorts(8);
            for (int k = 1; k < length; k++) {
                x.below(k - 1, k);
            }
            int last = length - 1;
            Bench.state("a ring of " + length, () -> x.below(last, 0) ? 1 : 0);
            Bench.due("what is not below is not at it either", length == 8 || !x.below(0, 7), true);
        }
    }

    private static RuleForge withSorts(int count) {
        RuleForge x = new RuleForge();
        for (int i = 0; i < count; i++) {
            x.sort();
        }
        return x;
    }

    /** "Variables are 0 to 9, each with a sort, 0 at first"; "the sort before; 0 also if there was none". */
    private static void tenVariables() {
        RuleForge x = new RuleForge();
        x.term(0);
        Bench.due("the sort 0 without sorts", x.sortOf(), 0);
        x.term(9);
        Bench.due("the sort 0 of the last one without sorts", x.sortOf(), 0);
        Bench.index("no sort to be given yet", () -> x.variable(9, 0));
        for (int i = 0; i < 8; i++) {
            x.sort();
        }
        for (int v = 0; v < 10; v++) {
            Bench.due("the sort before", x.variable(v, 7), 0);
            Bench.due("the sort before, again", x.variable(v, v % 8), 7);
        }
        Bench.due("what is on the stack already", x.sortOf(), 1);
        x.drop();
        for (int v = 0; v < 10; v++) {
            x.term(v);
            Bench.due("each has its own", x.sortOf(), v % 8);
        }
    }

    // ---- operators

    /** "Operators are numbered from 0, at most 16." */
    private static void sixteenOperators() {
        RuleForge x = new RuleForge();
        for (int i = 0; i < 15; i++) {
            Bench.due("operator()", x.operator(0, RuleForge.FREE, NONE), i);
        }
        Bench.index("the sixteenth is not there yet", () -> x.apply(15));
        Bench.index("nor an identity", () -> x.operator(2, RuleForge.ROW, 15));
        Bench.due("the sixteenth, whose identity is the fifteenth", x.operator(2, RuleForge.BAG, 14), 15);
        x.apply(14);
        x.apply(14);
        Bench.due("it can be put on", x.apply(15), 1);
        Bench.due("and leaves out its identity", x.code(0), 140);
        Bench.state("no seventeenth", () -> x.operator(0, RuleForge.FREE, NONE));
        Bench.index("it is not there", () -> x.apply(16));
    }

    /** "An operator has an arity, 0 to 3." */
    private static void arities() {
        RuleForge x = new RuleForge();
        for (int arity = 0; arity <= 3; arity++) {
            Bench.due("operator(" + arity + ")", x.operator(arity, RuleForge.FREE, NONE), arity);
            x.drop();
            for (int i = 0; i < 5; i++) {
                x.term(i);
            }
            Bench.due("terms then", x.apply(arity), 6 - arity);
            Bench.due("its arguments", x.code(0), 11 * arity);
            for (int i = 0; i < arity; i++) {
                Bench.due("the last ones", x.code(i + 1), 1005 - arity + i);
            }
        }
    }

    /** "Axioms: FREE; or, with the arity 2 only, PAIR, ROW or BAG"; "a ROW or a BAG may have an identity". */
    private static void axioms() {
        RuleForge x = new RuleForge();
        x.operator(0, RuleForge.FREE, NONE);
        for (int arity = 0; arity <= 3; arity++) {
            for (int axioms = 0; axioms <= 3; axioms++) {
                for (int identity = -1; identity <= 0; identity++) {
                    int a = arity, b = axioms, i = identity;
                    String call = "operator(" + a + ", " + b + ", " + i + ")";
                    boolean isDue = (b == 0 || a == 2) && (i == -1 || a == 2 && b >= 2);
                    if (!isDue) {
                        Bench.argument(call, () -> x.operator(a, b, i));
                    } else {
                        Bench.due(call, x.operator(a, b, i) > 0, true);
                    }
                }
            }
        }
    }

    /** "An operator has declarations, at most 3." */
    private static void threeDeclarations() {
        RuleForge x = withSorts(5);
        x.operator(1, RuleForge.FREE, NONE);
        for (int v = 0; v < 5; v++) {
            x.variable(v, v);
        }
        x.term(2);
        x.apply(0);
        Bench.due("none", x.sortOf(), NONE);
        Bench.due("one", x.declare(0, 4, 0, 0, 0), 1);
        Bench.due("two", x.declare(0, 3, 1, 0, 0), 2);
        Bench.due("the first two do not fit", x.sortOf(), NONE);
        Bench.due("three", x.declare(0, 1, 2, 0, 0), 3);
        Bench.due("the third one fits", x.sortOf(), 1);
        Bench.state("no fourth", () -> x.declare(0, 0, 3, 0, 0));
        x.term(3);
        x.apply(0);
        Bench.due("it does not count", x.sortOf(), NONE);
        x.operator(1, RuleForge.FREE, NONE);
        Bench.due("another operator has none yet", x.declare(1, 0, 0, 0, 0), 1);
    }

    /** "This and the others do not matter, if it has not so many." */
    private static void sortsThatDoNotMatter() {
        for (int arity = 0; arity <= 3; arity++) {
            for (int far : new int[] {MIN, -1, 1, MAX}) {
                RuleForge x = withSorts(1);
                x.operator(arity, RuleForge.FREE, NONE);
                int first = arity > 0 ? 0 : far, second = arity > 1 ? 0 : far, third = arity > 2 ? 0 : far;
                Bench.due("declare() of " + arity, x.declare(0, 0, first, second, third), 1);
                for (int i = 0; i < arity; i++) {
                    x.term(0);
                }
                x.apply(0);
                Bench.due("it fits", x.sortOf(), 0);
            }
        }
    }

    // ---- the forms of terms

    /** "A ROW or a BAG has 2 to 5 arguments, none of which has the same operator or is its identity." */
    private static void fiveArguments() {
        Bench b = Bench.usual();
        for (String o : new String[] {"r", "m"}) {
            Bench.due("2", b.form(o + "(a,b)"), o + "(a,b)");
            Bench.due("4", b.form(o + "(a,b,c,d)"), o + "(a,b,c,d)");
            Bench.due("5", b.form(o + "(a,b,c,d,e)"), o + "(a,b,c,d,e)");
            Bench.due("5 and its identity", b.form(o + "(a,b,c,i,d,e,i)"), o + "(a,b,c,d,e)");
            Bench.due("2 and 3", b.form(o + "(" + o + "(a,b)," + o + "(c,d,e))"), o + "(a,b,c,d,e)");
            Bench.due("1 and 4", b.form(o + "(a," + o + "(b,c,d,e))"), o + "(a,b,c,d,e)");
            Bench.due("4 and 1", b.form(o + "(" + o + "(a,b,c,d),e)"), o + "(a,b,c,d,e)");
            refusedForm(b, o, "r(a,a,a,a,a)".replace("r", o), "a");
            refusedForm(b, o, "a", "r(a,a,a,a,a)".replace("r", o));
            refusedForm(b, o, "r(a,a)".replace("r", o), "r(a,a,a,a)".replace("r", o));
            refusedForm(b, o, "r(a,a,a,a,a)".replace("r", o), "r(a,a,a,a,a)".replace("r", o));
        }
        Bench.due("a ROW in a BAG, each with 5", b.form("m(r(a,b,c,d,e),a,b,c,d)"), "m(a,b,c,d,r(a,b,c,d,e))");
        Bench.due("a BAG in a ROW, each with 5", b.form("r(m(e,d,c,b,a),e,d,c,b)"), "r(m(a,b,c,d,e),e,d,c,b)");
    }

    private static void refusedForm(Bench b, String operator, String one, String other) {
        b.x.drop();
        b.put(one).put(other);
        Bench.state(operator + " on " + one + " and " + other, () -> b.x.apply(b.number(operator)));
        Bench.due("the top is still there", b.top(), other);
        Bench.due("both are", b.x.drop(), 2);
    }

    /** "Its identity is left out; if one is left, it is that, if none, the identity." */
    private static void identities() {
        Bench b = Bench.usual();
        for (String o : new String[] {"r", "m"}) {
            Bench.due("two left", b.form(o + "(i,a,i,b,i)"), o + "(a,b)");
            Bench.due("one left, the first", b.form(o + "(x4,i)"), "x4");
            Bench.due("one left, the last", b.form(o + "(i,x4)"), "x4");
            Bench.due("none left", b.form(o + "(i,i)"), "i");
            Bench.due("none left of three", b.form(o + "(i,i,i)"), "i");
            Bench.due("another constant is not its identity", b.form(o + "(o,i)"), "o");
            Bench.due("one with its operator left", b.form(o + "(i," + o + "(b,a,i))").length(), 6);
        }
        Bench.due("the one of the other operator", b.form("m(r(i,i),r(a,i))"), "a");
    }

    /** "A ROW or BAG without identity always has 2 or more then." */
    private static void withoutIdentity() {
        Bench b = Bench.usual();
        b.op("q", 2, RuleForge.ROW, "");
        b.op("n", 2, RuleForge.BAG, "");
        Bench.due("a ROW", b.form("q(i,i)"), "q(i,i)");
        Bench.due("a BAG", b.form("n(i,a)"), "n(a,i)");
        Bench.due("5 of a ROW", b.form("q(i,q(i,i),q(i,i))"), "q(i,i,i,i,i)");
        refusedForm(b, "n", "n(i,i,i,i,i)", "i");
    }

    /** "No term is made that has a size above 20." */
    private static void twenty() {
        Bench b = Bench.usual();
        for (int size = 19; size <= 21; size++) {
            boolean isDue = size <= 20;
            made("one argument", b, isDue, "s", sized(size - 1));
            made("two arguments", b, isDue, "g", sized(size - 9), sized(8));
            made("a PAIR", b, isDue, "p", sized(8), sized(size - 9));
            made("three arguments", b, isDue, "h", sized(6), sized(size - 10), sized(3));
            made("a ROW", b, isDue, "r", sized(size - 9), sized(8));
            made("a BAG", b, isDue, "m", sized(8), sized(size - 9));
            made("a ROW on one of 3", b, isDue, "r", "r(a,b," + sized(size - 9) + ")", sized(6));
            made("a ROW on two", b, isDue, "r", "r(a," + sized(6) + ")", "r(b," + sized(size - 9) + ")");
            made("a BAG on two", b, isDue, "m", "m(a," + sized(6) + ")", "m(b," + sized(size - 9) + ")");
        }
        made("its identity does not count", b, true, "r", sized(20), "i");
        made("nor does that of a BAG", b, true, "m", "i", sized(20));
        made("20 and one more", b, false, "m", "o", sized(20));
        made("a variable counts", b, false, "g", "x0", sized(19));
    }

    private static String sized(int size) {
        return Bench.times("s", size - 1, "a");
    }

    private static void made(String what, Bench b, boolean isDue, String operator, String... arguments) {
        b.x.drop();
        for (String argument : arguments) {
            b.put(argument);
        }
        if (isDue) {
            Bench.due(what, b.x.apply(b.number(operator)), 1);
        } else {
            Bench.state(what + ", too large", () -> b.x.apply(b.number(operator)));
            Bench.due(what + ", the arguments are there", b.x.drop(), arguments.length);
        }
    }

    /** "Variables are ahead of all others, by rising numbers; of two others the one with the lower operator ..." */
    private static void orders() {
        Bench b = Bench.usual();
        String[] rising = {"x0", "x1", "x9", "a", "b", "o", "s(x0)", "s(a)", "s(b)", "s(h(a,a,a))", "g(x9,o)", "g(a,x0)", "g(a,o)",
            "g(b,a)", "h(a,a,a)", "p(a,o)", "r(o,o)", "r(a,b,c)", "r(b,a,a)", "r(a,a,a,a)", "r(a,a,a,a,a)"};
        for (int i = 0; i < rising.length; i++) {
            for (int k = 0; k < rising.length; k++) {
                String want = rising[Math.min(i, k)] + "," + rising[Math.max(i, k)] + ")";
                String given = rising[i] + "," + rising[k] + ")";
                Bench.due("a BAG", b.form("m(" + given), "m(" + want);
                Bench.due("a PAIR", b.form("p(" + given), "p(" + want);
                Bench.due("none in FREE", b.form("g(" + given), "g(" + given);
            }
        }
    }

    // ---- the sorts of terms

    /** "If no declaration fits, or an argument has none, it has no sort." */
    private static void noSort() {
        Bench b = new Bench();
        b.x.sort();
        b.x.sort();
        b.x.variable(1, 1);
        int n = b.bare("n", 0, 0, "");
        int s = b.bare("s", 1, 0, "");
        int h = b.bare("h", 3, 0, "");
        int r = b.bare("r", 2, RuleForge.ROW, "");
        Bench.due("without declarations", b.sort("s(x0)"), NONE);
        b.x.declare(s, 0, 0, 0, 0);
        b.x.declare(h, 0, 0, 0, 0);
        b.x.declare(r, 0, 0, 0, 0);
        Bench.due("it fits", b.sort("s(x0)"), 0);
        Bench.due("it does not fit", b.sort("s(x1)"), NONE);
        Bench.due("an argument has none", b.sort("s(n)"), NONE);
        Bench.due("an argument of that has none", b.sort("s(s(n))"), NONE);
        for (int i = 0; i < 3; i++) {
            String[] three = {"x0", "x0", "x0"};
            three[i] = "n";
            Bench.due("one of three has none", b.sort("h(" + String.join(",", three) + ")"), NONE);
            three[i] = "x1";
            Bench.due("one of three does not fit", b.sort("h(" + String.join(",", three) + ")"), NONE);
            three[i] = "n";
            Bench.due("one of a ROW has none", b.sort("r(" + String.join(",", three) + ")"), NONE);
            three[i] = "x1";
            Bench.due("one of a ROW does not fit", b.sort("r(" + String.join(",", three) + ")"), NONE);
        }
        Bench.due("all of a ROW", b.sort("r(x0,x0,x0,x0,x0)"), 0);
        b.x.declare(n, 1, 0, 0, 0);
        Bench.due("a sort that does not fit", b.sort("s(n)"), NONE);
        b.x.below(1, 0);
        Bench.due("a sort below", b.sort("s(n)"), 0);
    }

    /** "The sort of the first argument ... of the second argument ... of the third argument", each its own. */
    private static void sortsOfEach() {
        Bench b = new Bench();
        for (int i = 0; i < 4; i++) {
            b.x.sort();
        }
        for (int v = 0; v < 4; v++) {
            b.x.variable(v, v);
        }
        int h = b.bare("h", 3, 0, "");
        b.x.declare(h, 3, 0, 1, 2);
        for (int k = 0; k < 64; k++) {
            String term = "h(x" + k / 16 + ",x" + k / 4 % 4 + ",x" + k % 4 + ")";
            Bench.due("the sort of " + term, b.sort(term), term.equals("h(x0,x1,x2)") ? 3 : NONE);
        }
    }

    /** "The first two are taken so, then the result and the third one, and so on": up to the fifth. */
    private static void sortsOfRows() {
        for (int axioms : new int[] {RuleForge.ROW, RuleForge.BAG}) {
            Bench b = new Bench();
            for (int i = 0; i < 6; i++) {
                b.x.sort();
            }
            for (int v = 0; v < 6; v++) {
                b.x.variable(v, v);
            }
            int r = b.bare("r", 2, axioms, "");
            b.x.declare(r, 2, 0, 1, 0);
            b.x.declare(r, 4, 2, 3, 0);
            b.x.declare(r, 0, 4, 5, 0);
            Bench.due("two", b.sort("r(x0,x1)"), 2);
            Bench.due("two, none told", b.sort("r(x0,x2)"), NONE);
            Bench.due("three", b.sort("r(x0,x1,x3)"), 4);
            Bench.due("three, the last one not told", b.sort("r(x0,x1,x4)"), NONE);
            Bench.due("four", b.sort("r(x0,x1,x3,x5)"), 0);
            Bench.due("four, the last one not told", b.sort("r(x0,x1,x3,x3)"), NONE);
            Bench.due("three, the first two not told", b.sort("r(x1,x3,x5)"), NONE);
            if (axioms == RuleForge.ROW) {
                Bench.due("five", b.sort("r(x0,x1,x3,x5,x1)"), 2);
                Bench.due("five, the last one not told", b.sort("r(x0,x1,x3,x5,x5)"), NONE);
            }
        }
    }

    // ---- the stack and the slots

    /** "Puts a variable on the stack"; at most 10 terms. */
    private static void tenTerms() {
        Bench b = Bench.usual();
        for (int i = 1; i <= 9; i++) {
            Bench.due("term()", b.x.term(i % 10), i);
        }
        b.x.keep(0);
        Bench.due("load() with 8", b.x.load(0), 9);
        Bench.due("apply() of none with 9", b.x.apply(0), 10);
        Bench.state("term() with 10", () -> b.x.term(0));
        Bench.state("load() with 10", () -> b.x.load(0));
        Bench.state("apply() of none with 10", () -> b.x.apply(0));
        Bench.due("apply() of one with 10", b.x.apply(b.number("s")), 10);
        Bench.due("what was put on", b.top(), "s(a)");
        Bench.due("apply() of two with 10", b.x.apply(b.number("g")), 9);
        Bench.due("term() with 9", b.x.term(0), 10);
        Bench.due("apply() of three with 10", b.x.apply(b.number("h")), 8);
        Bench.due("drop() with 8", b.x.drop(), 8);
        Bench.due("drop() with none", b.x.drop(), 0);
    }

    /** "Keeps the top in a slot", 0 to 19. */
    private static void twentySlots() {
        Bench b = Bench.usual();
        for (int k = 0; k < 20; k++) {
            int slot = k;
            Bench.state("nothing was kept there", () -> b.x.load(slot));
            b.put(Bench.times("s", k, "a"));
            Bench.due("keep(" + k + ")", b.x.keep(k), 0);
        }
        for (int k = 19; k >= 0; k--) {
            b.x.drop();
            Bench.due("load(" + k + ")", b.x.load(k), 1);
            Bench.due("what was kept there", b.top(), Bench.times("s", k, "a"));
        }
        b.x.drop();
        b.put("b").x.keep(0);
        b.x.load(1);
        Bench.due("the others stay", b.top(), "s(a)");
        b.x.load(0);
        Bench.due("the last one that was kept", b.top(), "b");
    }

    /** "10 times the operator, and how many arguments it has there, together; 1000 and its number ..." */
    private static void codes() {
        RuleForge x = new RuleForge();
        for (int i = 0; i < 15; i++) {
            x.operator(0, RuleForge.FREE, NONE);
        }
        x.operator(2, RuleForge.BAG, NONE);
        x.term(9);
        Bench.due("the last variable", x.code(0), 1009);
        for (int i = 0; i < 4; i++) {
            x.term(0);
            x.apply(15);
        }
        Bench.due("the last operator with the most arguments", x.code(0), 155);
        Bench.due("the first variable", x.code(4), 1000);
        Bench.due("at the last place", x.code(5), 1009);
        Bench.index("behind it", () -> x.code(6));
        x.apply(0);
        Bench.due("the first operator", x.code(0), 0);
        Bench.index("there is no more", () -> x.code(1));
    }

    /** "An object is used for at most 512 calls." */
    private static void manyCalls() {
        RuleForge x = new RuleForge();
        x.operator(0, RuleForge.FREE, NONE);
        x.operator(1, RuleForge.FREE, NONE);
        for (int i = 0; i < 169; i++) {
            x.apply(0);
            x.apply(1);
            x.drop();
        }
        Bench.due("the call 510", x.apply(0), 1);
        Bench.due("the call 511", x.apply(1), 1);
        Bench.due("the call 512", x.code(1), 0);
    }

    public static void main(String[] args) {
        eightSorts();
        chainsOfSorts();
        noRingOfSorts();
        tenVariables();
        sixteenOperators();
        arities();
        axioms();
        threeDeclarations();
        sortsThatDoNotMatter();
        fiveArguments();
        identities();
        withoutIdentity();
        twenty();
        orders();
        noSort();
        sortsOfEach();
        sortsOfRows();
        tenTerms();
        twentySlots();
        codes();
        manyCalls();
        Bench.end();
    }
}
