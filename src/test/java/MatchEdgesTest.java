/** The sentences on matches (promises 14 to 16) that name a boundary, each by itself. */
public final class MatchEdgesTest {
    private static final int MIN = Integer.MIN_VALUE, MAX = Integer.MAX_VALUE;

    /** The usual one with a BAG n and a ROW q, both without identity. */
    private static Bench usual() {
        Bench b = Bench.usual();
        b.op("n", 2, RuleForge.BAG, "");
        b.op("q", 2, RuleForge.ROW, "");
        return b;
    }

    /** "A pattern may have at most 3 different variables." */
    private static void threeVariables() {
        Bench b = usual();
        Bench.due("none", b.matches("a", "a"), "1 1");
        Bench.due("one", b.matches("g(x9,x9)", "g(a,a)"), "1 1");
        Bench.due("two", b.matches("g(x9,x0)", "g(a,b)"), "1 1");
        Bench.due("three", b.matches("h(x9,x0,x5)", "h(a,b,c)"), "1 1");
        Bench.due("three, and more often", b.matches("m(h(x9,x0,x5),x0,x5)", "m(h(a,i,i),i,i)"), "1 1");
        for (String four : new String[] {"m(x0,x1,x2,x3)", "h(g(x9,x8),x7,x6)", "g(s(x0),h(x1,x2,x9))"}) {
            for (String subject : new String[] {"a", "x0", four}) {
                b.x.drop();
                b.put(four).put(subject);
                Bench.state("matches() of four", () -> b.x.matches());
                Bench.state("matchesAnew() of four", () -> b.x.matchesAnew());
                Bench.state("match() of four", () -> b.x.match(0, 0));
                Bench.due("both are there", b.x.drop(), 2);
            }
        }
        Bench.due("four in the subject", b.matches("h(x0,x1,x2)", "h(x3,x4,g(x5,x6))"), "1 1");
        b.x.drop();
        b.put("m(x0,x1,x2,x3)").put("x0").put("x1");
        Bench.due("four below the pattern", b.x.matches(), 1);
    }

    /** "Throws IllegalStateException if there are not two terms". */
    private static void twoTerms() {
        Bench b = usual();
        Bench.state("matches() of none", () -> b.x.matches());
        Bench.state("matchesAnew() of none", () -> b.x.matchesAnew());
        Bench.state("match() of none", () -> b.x.match(0, 0));
        b.put("x0");
        Bench.state("matches() of one", () -> b.x.matches());
        Bench.state("matchesAnew() of one", () -> b.x.matchesAnew());
        Bench.state("match() of one", () -> b.x.match(0, 0));
        b.put("a");
        Bench.due("matches() of two", b.x.matches(), 1);
        Bench.due("matchesAnew() of two", b.x.matchesAnew(), 1);
        Bench.due("match() of two", b.x.match(0, 0), 3);
        Bench.due("the last two of three", b.x.matches(), 1);
        Bench.index("which has no variables", () -> b.x.match(0, 0));
    }

    /** "Gives each variable of the pattern a term, whose sort is at or below the variable's". */
    private static void sortsOfTerms() {
        Bench b = new Bench();
        for (int i = 0; i < 4; i++) {
            b.x.sort();
        }
        b.x.below(0, 1);
        b.x.below(1, 2);
        for (int v = 0; v < 4; v++) {
            b.x.variable(v, v);
            int c = b.bare("c" + v, 0, 0, "");
            b.x.declare(c, v, 0, 0, 0);
        }
        b.bare("none", 0, 0, "");
        for (int v = 0; v < 4; v++) {
            for (int s = 0; s < 4; s++) {
                String due = s == v || s < v && v < 3 ? "1 1" : "0 0";
                Bench.due("a constant of the sort " + s + " for " + v, b.matches("x" + v, "c" + s), due);
                Bench.due("a variable of the sort " + s + " for " + v, b.matches("x" + v, "x" + s), due);
            }
            Bench.due("no sort for " + v, b.matches("x" + v, "none"), "0 0");
        }
        RuleForge x = new RuleForge();
        x.operator(0, RuleForge.FREE, RuleForge.NONE);
        x.term(0);
        x.term(9);
        Bench.due("variables without sorts", x.matches(), 1);
        x.apply(0);
        x.term(9);
        Bench.due("and no term has a sort then", x.matches(), 0);
        x.drop();
        x.term(0);
        x.apply(0);
        Bench.due("no term has a sort then", x.matches() + x.matchesAnew(), 0);
    }

    /** "Matches are in the order of the term for the lowest variable of the pattern, then the next one, and so on." */
    private static void orders() {
        Bench b = usual();
        Bench.due("the lowest", b.given("n(x1,x2,x9)", "n(a,b,c)", 1), "a a b b c c");
        Bench.due("then the next one", b.given("n(x1,x2,x9)", "n(a,b,c)", 2), "b c a c a b");
        Bench.due("then the last one", b.given("n(x1,x2,x9)", "n(a,b,c)", 9), "c b c a b a");
        Bench.due("whatever their places are", b.given("q(x9,x0)", "q(c,b,a)", 0), "a q(b,a)");
        Bench.due("the other one then", b.given("q(x9,x0)", "q(c,b,a)", 9), "q(c,b) c");
        Bench.due("variables ahead", b.given("n(x0,x1)", "n(a,x7,x3)", 0), "x3 x7 a n(x3,x7) n(x3,a) n(x7,a)");
        Bench.due("fewer arguments ahead", b.given("r(x0,x1)", "r(c,a,b)", 0), "c i r(c,a) r(c,a,b)");
    }

    /** "0 for the first match": match(place) of one match, of many, and of the most. */
    private static void places() {
        Bench b = usual();
        placesOf(b, "s(x0)", "s(a)", 1, "a", "a");
        placesOf(b, "m(x0,x1)", "m(a,b)", 4, "a", "m(a,b)");
        placesOf(b, "n(x0,x1,x2)", "n(a,b,c,d,e)", 150, "a", "n(c,d,e)");
        placesOf(b, "m(x0,x1,x2)", "m(a,b,c,d,e)", 243, "a", "m(a,b,c,d,e)");
        b.x.drop();
        b.put("s(x0)").put("a");
        Bench.due("none", b.x.matches(), 0);
        Bench.index("not even the first one", () -> b.x.match(0, 0));
    }

    private static void placesOf(Bench b, String pattern, String subject, int count, String first, String last) {
        b.x.drop();
        b.put(pattern).put(subject);
        Bench.due("matches() of " + pattern, b.x.matches(), count);
        Bench.due("the first one", b.x.match(0, 0), 3);
        Bench.due("it gives", b.top(), first);
        b.x.keep(0);
        Bench.due("the last one", b.x.match(count - 1, 0), 3);
        Bench.due("it gives", b.top(), last);
        b.x.keep(0);
        for (int place : new int[] {MIN, -1, count, MAX}) {
            Bench.index("match(" + place + ", 0) of " + count, () -> b.x.match(place, 0));
        }
        Bench.due("the terms are there", b.x.drop(), 2);
    }

    /** "Or the pattern does not have the variable": of 0 to 9, below and above. */
    private static void variablesOfMatches() {
        Bench b = usual();
        b.put("h(x0,x4,x9)").put("h(a,b,c)");
        String[] due = {"a", "", "", "", "b", "", "", "", "", "c"};
        for (int k = 0; k < 10; k++) {
            int v = k;
            if (due[v].isEmpty()) {
                Bench.index("match(0, " + v + ")", () -> b.x.match(0, v));
            } else {
                Bench.due("match(0, " + v + ")", b.x.match(0, v), 3);
                Bench.due("it gives", b.top(), due[v]);
                b.x.keep(0);
            }
        }
        for (int v : new int[] {MIN, -32, -1, 10, 32, 36, MAX}) {
            Bench.index("match(0, " + v + ")", () -> b.x.match(0, v));
        }
        b.x.drop();
        b.put("s(x0)").put("s(x1)");
        Bench.index("that the subject has it is no matter", () -> b.x.match(0, 1));
    }

    /** "Returns how many terms there are then": 10 at the most. */
    private static void fullStack() {
        Bench b = usual();
        for (int i = 0; i < 7; i++) {
            b.put("a");
        }
        b.put("s(x0)").put("s(c)");
        Bench.due("with 9", b.x.match(0, 0), 10);
        b.x.drop();
        for (int i = 0; i < 8; i++) {
            b.put("a");
        }
        b.put("s(x0)").put("s(c)");
        Bench.state("with 10", () -> b.x.match(0, 0));
        Bench.due("matches() with 10", b.x.matches(), 1);
        Bench.due("all are there", b.x.drop(), 10);
    }

    /** "NONE if there are more than 8 different terms to try": 7, 8 and 9 of each kind. */
    private static void eightTerms() {
        int[] due = {1, 1, -1};
        for (int k = 0; k < 3; k++) {
            Bench b = new Bench();
            b.x.sort();
            b.constants("a b c d e");
            b.op("s", 1);
            b.op("q", 2, RuleForge.ROW, "");
            b.op("n", 2, RuleForge.BAG, "");
            tried("all beneath", b, "x0", Bench.times("s", 6 + k, "a"), due[k]);
            tried("the same ones count once", b, "x0", "n(" + Bench.times("s", 5 + k, "a") + "," + Bench.times("s", 5 + k, "a") + ")",
                    due[k]);
            tried("variables", b, "x0", Bench.times("s", 6 + k, "x1"), due[k]);
            tried("parts of a ROW", b, "x0", Bench.times("s", 1 + k, "q(a,b,c)"), due[k]);
            tried("parts of a BAG", b, "x0", Bench.times("s", k, "n(a,b,c)"), due[k]);
            tried("the same parts count once", b, "x0", Bench.times("s", k, "n(a,a,a,b)"), due[k]);
            tried("without variables", b, Bench.times("s", 6 + k, "a"), Bench.times("s", 6 + k, "a"), due[k]);
            tried("without a match", b, "b", Bench.times("s", 6 + k, "a"), due[k] == 1 ? 0 : -1);
            b.op("r", 2, RuleForge.ROW, "b");
            tried("an identity", b, "x0", Bench.times("s", 5 + k, "a"), due[k]);
            tried("one that is there", b, "x0", Bench.times("s", 6 + k, "b"), due[k]);
            b.op("m", 2, RuleForge.BAG, "b");
            tried("the same identity", b, "x0", Bench.times("s", 5 + k, "a"), due[k]);
            b.op("l", 2, RuleForge.BAG, "c");
            tried("another identity", b, "x0", Bench.times("s", 4 + k, "a"), due[k]);
        }
    }

    private static void tried(String what, Bench b, String pattern, String subject, int due) {
        b.x.drop();
        b.put(pattern).put(subject);
        Bench.due(what + " in " + subject, b.x.matchesAnew(), due);
    }

    /** "Whatever their sorts": terms count that no variable can be given. */
    private static void eightWithoutSorts() {
        Bench b = new Bench();
        b.bare("a", 0, 0, "");
        b.bare("s", 1, 0, "");
        tried("8 without sorts", b, Bench.times("s", 7, "a"), Bench.times("s", 7, "a"), 1);
        tried("9 without sorts", b, Bench.times("s", 8, "a"), Bench.times("s", 8, "a"), -1);
        tried("none can be given", b, "x0", Bench.times("s", 7, "a"), 0);
    }

    /** The least subjects: a variable, a constant, the identity. */
    private static void leastSubjects() {
        Bench b = usual();
        Bench.due("a variable for a variable", b.matches("x0", "x0"), "1 1");
        Bench.due("a variable for an operator", b.matches("a", "x0"), "0 0");
        Bench.due("a variable as two, one left out", b.matches("m(x0,x1)", "x0"), "2 2");
        Bench.due("a constant as three, two left out", b.matches("r(x0,x1,x2)", "a"), "3 3");
        Bench.due("the identity as three", b.matches("m(x0,x1,x2)", "i"), "1 1");
        Bench.due("the identity as one with another", b.matches("m(x0,a)", "i"), "0 0");
        Bench.due("nothing for the other one", b.matches("m(x0,a)", "a"), "1 1");
        Bench.due("it is the identity", b.given("m(x0,a)", "a", 0), "i");
        Bench.due("without identity there is nothing", b.matches("n(x0,a)", "a"), "0 0");
        Bench.due("all but the last", b.given("q(x0,e)", "q(a,b,c,d,e)", 0), "q(a,b,c,d)");
        Bench.due("as many as there are", b.matches("n(x0,x1,x2,x0,x1)", "n(a,a,b,b,c)"), "2 -1");
        Bench.due("one more than there are", b.matches("n(x0,x1,x2,x0,x1)", "n(a,a,b,b)"), "0 -1");
        Bench.due("5 for one of 2", b.given("n(x0,a)", "n(a,b,c,d,e)", 0), "n(b,c,d,e)");
    }

    /** Patterns of a size of 19, of nine PAIRs, which can be turned round in many ways. */
    private static void manyPairs() {
        Bench b = usual();
        String nine = "p(".repeat(9) + "b" + ",a)".repeat(9);
        Bench.due("itself", b.matches(nine, nine), "1 -1");
        String open = "p(".repeat(9) + "b" + ",a)".repeat(6) + ",x2),x1),x0)";
        Bench.due("a variable for each of the first three", b.matches(open, nine), "1 -1");
        String rising = "p(x0,p(x1,x2))";
        Bench.due("three arguments first", b.matches("h(x0,x1,x2)", "h(b,c,d)"), "1 1");
        Bench.due("then a PAIR of one and another one with that", b.matches("p(x0,x1)", "p(a,s(a))"), "2 2");
        Bench.due("the one that is a PAIR is the last one", b.matches(rising, "p(c,p(a,b))"), "2 2");
        Bench.due("all of three PAIRs", b.matches("p(p(x0,x1),p(x0,x2))", "p(p(a,b),p(a,c))"), "2 2");
        Bench.due("all of three PAIRs of the same", b.matches("p(p(x0,x1),p(x0,x2))", "p(p(a,b),p(a,b))"), "2 2");
        Bench.due("one open at the end", b.matches("p(".repeat(8) + "p(x0,x1)" + ",a)".repeat(8), nine), "2 -1");
    }

    /** Terms of a size of 20, with the same arguments so often that each must not be tried for each. */
    private static void manySame() {
        Bench b = usual();
        String five = "n(a,a,a,a,a)";
        String whole = "m(" + five + "," + five + "," + five + ")";
        Bench.due("itself", b.matches(whole, whole), "1 1");
        Bench.due("5 the same", b.matches("n(x0,x0,x0,x0,x0)", five), "1 1");
        Bench.due("2 of 5 the same", b.given("n(x0,x1)", five, 0), "a n(a,a) n(a,a,a) n(a,a,a,a)");
        Bench.due("2 of two the same and two others", b.given("n(x0,x1)", "n(a,a,b,c)", 0),
                "a b c n(a,a) n(a,b) n(a,c) n(b,c) n(a,a,b) n(a,a,c) n(a,b,c)");
        Bench.due("with the identity", b.matches("m(x0,x1,x2)", "m(a,a,a,b,b)"), "60 -1");
        Bench.due("a part of the same", b.matches("m(x0,s(m(x0,x1)))", "m(a,a,s(m(a,a,a)))"), "1 1");
    }

    public static void main(String[] args) {
        threeVariables();
        twoTerms();
        sortsOfTerms();
        orders();
        places();
        variablesOfMatches();
        fullStack();
        eightTerms();
        eightWithoutSorts();
        leastSubjects();
        manyPairs();
        manySame();
        Bench.end();
    }
}
