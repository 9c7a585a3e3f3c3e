/** The sentences on searches and claims (promises 22 to 27) that name a boundary, each by itself. */
public final class SearchEdgesTest {
    private static final int MIN = Integer.MIN_VALUE, MAX = Integer.MAX_VALUE;
    private static final int ALWAYS = RuleForge.ALWAYS, POSSIBLE = RuleForge.POSSIBLE, SURE = RuleForge.SURE;

    /** The usual one with a BAG n without identity. */
    private static Bench usual() {
        Bench b = Bench.usual();
        b.op("n", 2, RuleForge.BAG, "");
        return b;
    }

    private static void searched(String what, Bench b, String term, int states, boolean isCut) {
        Bench.due(what, b.search(term), states);
        Bench.due(what + ", is it cut", b.x.isCut(), isCut);
    }

    // ---- how far a search goes

    /** Two chains of constants, j and k, with so many rules each. */
    private static Bench chains(int first, int second) {
        Bench b = new Bench();
        b.x.sort();
        b.constants("j0 j1 j2 j3 j4 k0 k1 k2 k3 k4 k5");
        b.op("g", 2);
        for (int i = 0; i < first; i++) {
            b.rule("j" + i, "j" + (i + 1));
        }
        for (int i = 0; i < second; i++) {
            b.rule("k" + i, "k" + (i + 1));
        }
        return b;
    }

    /** "There are at most 24 [states] ...; if there would be more of either, the search is cut". */
    private static void twentyFourStates() {
        Bench b = chains(3, 5);
        b.equation("g(j3,k5)", "g(j3,k4)");
        searched("23 states", b, "g(j0,k0)", 23, false);
        searched("24 states", chains(3, 5), "g(j0,k0)", 24, false);
        Bench cut = chains(4, 4);
        searched("25 states", cut, "g(j0,k0)", 24, true);
        Bench.due("the last state is there", cut.x.state(23), 1);
        Bench.index("no other one", () -> cut.x.state(24));
        Bench.due("it was come to", cut.x.cameBy(23) > 0, true);
        Bench.index("no other one was come to", () -> cut.x.cameBy(24));
        Bench full = chains(3, 5);
        full.search("g(j0,k0)");
        Bench.due("the last one of 24", full.x.state(23), 1);
        Bench.due("it is", full.top(), "g(j3,k5)");
        Bench.due("it was come to from the state 21, by the last rule", full.x.cameBy(23), 217);
        Bench.due("a claim about 24", full.holds(ALWAYS, "g(x0,x1)"), true);
        Bench.due("a claim about the last one", full.holds(POSSIBLE, "g(j3,k5)"), true);
        Bench.due("a claim that is not so in the last one", full.holds(ALWAYS, "g(x0,x0)"), false);
        Bench.due("it is come to", full.holds(SURE, "g(j3,k5)"), true);
    }

    /** A rule for each of these left sides, on a BAG of 5, which has 30, 14, 6, 2 or 1 matches. */
    private static Bench matching(String right, String one, String... lefts) {
        Bench b = usual();
        for (String left : lefts) {
            b.rule(left, right, one, "a");
        }
        return b;
    }

    private static final String OF_30 = "n(x0,x1)", OF_14 = "n(a,x0,x1)", OF_2 = "n(a,b,c,x0,x1)", OF_1 = "n(a,x0)";

    /** "Rules are used with at most 150 matches, also such whose conditions do not hold". */
    private static void matches() {
        for (String one : new String[] {"a", "b"}) {
            int states = one.equals("a") ? 2 : 1;
            searched("149 matches", matching("o", one, OF_30, OF_30, OF_30, OF_30, OF_14, OF_14, OF_1), "n(a,b,c,d,e)", states,
                    false);
            searched("150 matches", matching("o", one, OF_30, OF_30, OF_30, OF_30, OF_14, OF_14, OF_2), "n(a,b,c,d,e)", states,
                    false);
            searched("150 matches by 8 rules", matching("o", one, OF_30, OF_30, OF_30, OF_30, OF_14, OF_14, OF_1, OF_1),
                    "n(a,b,c,d,e)", states, false);
            searched("151 matches", matching("o", one, OF_30, OF_30, OF_30, OF_30, OF_14, OF_14, OF_2, OF_1), "n(a,b,c,d,e)",
                    states, true);
        }
        Bench b = matching("s(n(a,b,c,d,e))", "a", OF_30, OF_30, OF_14);
        b.rule(OF_2, "o");
        searched("76 matches, and only 74 in the next state", b, "n(a,b,c,d,e)", 4, true);
        Bench c = matching("s(n(a,b,c,d,e))", "b", OF_30, OF_30, OF_14, OF_1);
        c.rule("o", "s(n(a,b,c,d,e))");
        searched("75 matches in each of two places, 150", c, "g(n(a,b,c,d,e),n(a,b,c,d,e))", 1, false);
        Bench first = usual();
        first.rule("n(x0,x1,x2)", "o", "x0", "n(c,d,e)");
        first.rule("n(x0,x1,x2)", "o", "x0", "a");
        searched("a state that one comes to by the match 150", first, "n(a,b,c,d,e)", 2, true);
    }

    /** Each of the 30 matches of its rule takes 6 steps, and does not hold. */
    private static Bench sixSteps() {
        Bench b = new Bench();
        b.x.sort();
        b.constants("k0 k1 k2 k3 k4 k5 a b c d e z w o");
        b.op("n", 2, RuleForge.BAG, "");
        b.op("s", 1);
        for (int i = 0; i < 5; i++) {
            b.equation("k" + i, "k" + (i + 1));
        }
        b.equation("s(x0)", "x0");
        b.equation("w", Bench.times("s", 18, "a"));
        b.rule("n(x0,x1)", "z", "k0", "z");
        return b;
    }

    /** "With none behind 200 steps that the search took in all": those of its first term as well. */
    private static void twoHundredSteps() {
        for (int steps = 24; steps <= 27; steps++) {
            String term = "n(w," + Bench.times("s", steps - 19, "b") + ",c,d,e)";
            searched("the last match behind " + (174 + steps) + " steps", sixSteps(), term, 1, steps > 25);
        }
    }

    /** "With steps of its own, like those of the condition": 60 for each, counted anew. */
    private static void sixtySteps() {
        for (int more = 0; more <= 1; more++) {
            Bench b = new Bench();
            b.x.sort();
            b.constants("k0 k1 k2 k3 k4 k5 k6 a b");
            b.op("g", 2);
            b.op("s", 1);
            for (int i = 0; i < 6; i++) {
                b.equation("k" + i, "k" + (i + 1));
            }
            b.equation("s(x0)", "x0");
            String ten = "g(".repeat(9) + "k0" + ",k0)".repeat(9);
            String inCondition = "g(".repeat(9) + "k" + (1 - more) + ",k0)".repeat(9);
            b.rule("a", ten, inCondition, ten.replace("k0", "k6"));
            Bench.due("a condition of 60 steps, more " + more, b.search("a"), more == 0 ? 2 : -2);
            Bench c = new Bench();
            c.x.sort();
            c.constants("k0 k1 k2 k3 k4 k5 k6 a b");
            c.op("g", 2);
            c.op("s", 1);
            for (int i = 0; i < 6; i++) {
                c.equation("k" + i, "k" + (i + 1));
            }
            c.equation("s(x0)", "x0");
            c.rule("b", more == 0 ? ten : "s(" + ten + ")");
            Bench.due("60 steps of what one goes on to, more " + more, c.search("b"), more == 0 ? 2 : -2);
            Bench.due("60 steps of the first term, more " + more, c.search(more == 0 ? ten : "s(" + ten + ")"), more == 0 ? 1 : -2);
        }
    }

    /** "Conditions within conditions more than 3 deep": that of the rule is the first one. */
    private static void threeDeep() {
        Bench b = new Bench();
        b.x.sort();
        b.constants("k0 k1 k2 k3 o z");
        for (int i = 0; i < 3; i++) {
            b.equation("k" + i, "o", "k" + (i + 1), "o");
        }
        b.equation("k3", "o");
        b.rule("z", "o", "k1", "o");
        Bench.due("3 deep", b.search("z"), 2);
        b.rule("z", "o", "k0", "o");
        Bench.due("4 deep", b.search("z"), -2);
        Bench c = new Bench();
        c.x.sort();
        c.constants("k0 k1 k2 k3 o z");
        for (int i = 0; i < 3; i++) {
            c.equation("k" + i, "o", "k" + (i + 1), "o");
        }
        c.equation("k3", "o");
        c.rule("z", "k0");
        Bench.due("3 deep in what one goes on to", c.search("z"), 2);
        Bench.due("3 deep in the first term", c.search("k0"), 1);
    }

    /** "A search fails if reducing fails": at first, in a condition, afterwards, or if a term is too large. */
    private static void failures() {
        Bench b = usual();
        b.equation("e", "e");
        b.rule("a", "b");
        b.rule("b", "c", "e", "e");
        b.rule("c", "e");
        b.rule("d", "o");
        Bench.due("none", b.search("d"), 2);
        failed("at first", b, "s(e)");
        Bench.due("none", b.search("d"), 2);
        failed("in a condition", b, "b");
        failed("in what one goes on to", b, "c");
        failed("at a later state", b, "a");
        Bench c = usual();
        c.rule("a", Bench.times("s", 9, "b"));
        c.rule("c", "m(b,b,b)");
        c.rule("g(x0,x1)", "h(x0,x0,x1)");
        Bench.due("a size of 20", c.search(Bench.times("s", 10, "a")), 2);
        failed("a size of 21", c, Bench.times("s", 11, "a"));
        Bench.due("5 arguments", c.search("m(b,b,c)"), 2);
        failed("6 arguments", c, "m(b,b,b,c)");
        Bench.due("a right side of 20", c.search("g(" + Bench.times("s", 7, "b") + ",s(s(b)))"), 2);
        failed("a right side of 21", c, "g(" + Bench.times("s", 7, "b") + ",s(s(s(b))))");
    }

    private static void failed(String what, Bench b, String term) {
        b.x.drop();
        b.put("o").put(term);
        Bench.due(what, b.x.search(), RuleForge.FAILED);
        Bench.due(what + ", the top is gone", b.x.drop(), 1);
        Bench.due(what + ", there is none that is cut", b.x.isCut(), false);
        Bench.index(what + ", there is no state", () -> b.x.state(0));
        b.put("x0");
        Bench.due(what + ", none is found", b.x.finds(0), RuleForge.NONE);
        Bench.state(what + ", there are no claims", () -> b.x.holds(ALWAYS) ? 1 : 0);
    }

    /** "In place of the search before": one that is cut, one that is not, and one that fails. */
    private static void inPlace() {
        Bench b = chains(4, 4);
        Bench.due("no search", b.x.isCut(), false);
        b.equation("j4", "j4");
        searched("a small one", b, "k3", 2, false);
        searched("one that is cut", b, "g(k0,k0)", 24, true);
        searched("a small one again", b, "k4", 1, false);
        searched("one that is cut again", b, "g(k0,k0)", 24, true);
        lastFails(b);
    }

    private static void lastFails(Bench b) {
        Bench.due("one that fails after one that is cut", b.search("j0"), -2);
        Bench.due("it is not cut", b.x.isCut(), false);
        Bench.index("the states are gone", () -> b.x.state(0));
        Bench.index("how one came to them, too", () -> b.x.cameBy(1));
    }

    /** The variables of the term stay, also those that the rule and its condition have. */
    private static void variablesOfTerms() {
        Bench b = usual();
        b.rule("s(x0)", "x0", "x0", "b");
        b.rule("h(x0,x1,x2)", "g(x2,x1)");
        Bench.due("a variable that the rule has", b.search("g(x0,s(b))"), 2);
        Bench.due("it stays", b.states(2), "g(x0,s(b)) g(x0,b)");
        Bench.due("three that the rule has", b.search("m(x0,x1,x2,h(a,b,c))"), 2);
        Bench.due("they stay", b.states(2), "m(x0,x1,x2,h(a,b,c)) m(x0,x1,x2,g(c,b))");
        b.x.use(1);
        Bench.due("in a run, too", b.run("h(h(x0,a,b),x1,s(x2))"), "1 g(s(x2),x1)");
        b.x.use(0);
        Bench.due("and by a condition", b.run("m(x0,s(b),s(x0))"), "1 m(x0,b,s(x0))");
    }

    // ---- what is asked of a search

    /** "Puts a state of the search on the stack"; "not 0" for how one came to it. */
    private static void states() {
        Bench b = usual();
        for (int state : new int[] {MIN, -1, 0, 1, MAX}) {
            Bench.index("state(" + state + ") without a search", () -> b.x.state(state));
            Bench.index("cameBy(" + state + ") without a search", () -> b.x.cameBy(state));
        }
        for (int i = 0; i < 7; i++) {
            b.rule("e", "e");
        }
        b.rule("a", "b");
        b.search("c");
        Bench.due("state(0) of 1", b.x.state(0), 1);
        for (int state : new int[] {MIN, -1, 1, MAX}) {
            Bench.index("state(" + state + ") of 1", () -> b.x.state(state));
            Bench.index("cameBy(" + state + ") of 1", () -> b.x.cameBy(state));
        }
        Bench.index("cameBy(0) of 1", () -> b.x.cameBy(0));
        b.search("g(a,a)");
        Bench.due("the last rule, from the state 0", b.x.cameBy(1), 7);
        Bench.due("from the state 1", b.x.cameBy(3), 17);
        Bench.index("cameBy(4) of 4", () -> b.x.cameBy(4));
        for (int i = 0; i < 9; i++) {
            b.x.state(3);
        }
        Bench.due("state(0) with 9", b.x.state(0), 10);
        Bench.state("state(0) with 10", () -> b.x.state(0));
        Bench.state("state(3) with 10", () -> b.x.state(3));
        Bench.index("state(4) with 10", () -> b.x.state(4));
    }

    /** "NONE if there are not so many, or no search"; "if place is below 0". */
    private static void finds() {
        Bench b = usual();
        b.put("x0");
        Bench.due("finds(0) without a search", b.x.finds(0), -1);
        Bench.due("finds(max) without a search", b.x.finds(MAX), -1);
        Bench.index("finds(-1) without a search", () -> b.x.finds(-1));
        b.rule("a", "b");
        b.search("g(a,a)");
        found(b, "x0", "0 1 2 3 -1 -1");
        found(b, "g(x0,x0)", "0 3 -1 -1 -1 -1");
        found(b, "g(x0,b)", "2 3 -1 -1 -1 -1");
        found(b, "s(x0)", "-1 -1 -1 -1 -1 -1");
        found(b, "g(b,b)", "3 -1 -1 -1 -1 -1");
        b.put("x0");
        Bench.index("finds(min)", () -> b.x.finds(MIN));
        Bench.index("finds(-1)", () -> b.x.finds(-1));
        Bench.due("finds(max)", b.x.finds(MAX), -1);
        b.x.drop();
        for (int place : new int[] {MIN, -1, 0, MAX}) {
            Bench.state("finds(" + place + ") without a top", () -> b.x.finds(place));
        }
        b.put("m(x0,x1,x2)");
        Bench.due("three variables", b.x.finds(0), 0);
        b.x.drop();
        b.put("m(x0,x1,x2,x3)");
        for (int place : new int[] {MIN, -1, 0, MAX}) {
            Bench.state("finds(" + place + ") of four variables", () -> b.x.finds(place));
        }
    }

    private static void found(Bench b, String pattern, String due) {
        b.x.drop();
        b.put(pattern);
        StringBuilder all = new StringBuilder();
        for (int place = 0; place < 6; place++) {
            all.append(place == 0 ? "" : " ").append(b.x.finds(place));
        }
        Bench.due("finds() of " + pattern, all.toString(), due);
        Bench.due("the top stays", b.x.drop(), 1);
    }

    // ---- claims

    private static void claims(Bench b, String pattern, boolean always, boolean possible, boolean sure) {
        Bench.due("ALWAYS " + pattern, b.holds(ALWAYS, pattern), always);
        Bench.due("POSSIBLE " + pattern, b.holds(POSSIBLE, pattern), possible);
        Bench.due("SURE " + pattern, b.holds(SURE, pattern), sure);
    }

    /** Of one state, which is the end. */
    private static void oneState() {
        Bench b = usual();
        b.search("a");
        claims(b, "a", true, true, true);
        claims(b, "x0", true, true, true);
        claims(b, "b", false, false, false);
    }

    /** "In all states", "in some state": all but one, just one, none. */
    private static void someStates() {
        Bench b = usual();
        b.rule("a", "b");
        b.rule("b", "s(b)", "a", "b");
        b.rule("b", "c");
        b.rule("c", "s(c)", "a", "b");
        b.search("g(a,o)");
        claims(b, "g(x0,o)", true, true, true);
        claims(b, "g(a,x0)", false, true, true);
        claims(b, "g(b,x0)", false, true, true);
        claims(b, "g(c,x0)", false, true, true);
        claims(b, "g(d,x0)", false, false, false);
        Bench last = usual();
        last.rule("a", "b");
        last.rule("b", "o");
        last.search("g(a,a)");
        claims(last, "g(x0,x1)", true, true, true);
        claims(last, "g(o,o)", false, true, true);
        claims(last, "g(b,b)", false, true, false);
        Bench but = usual();
        but.rule("s(x0)", "x0");
        but.search("s(s(a))");
        claims(but, "s(x0)", false, true, true);
        claims(but, "a", false, true, true);
    }

    /** "However one goes on from the state 0 ... (a state that cannot go on is the end)". */
    private static void sure() {
        Bench ends = usual();
        ends.rule("a", "b");
        ends.rule("a", "c");
        ends.rule("c", "d");
        ends.search("a");
        claims(ends, "d", false, true, false);
        claims(ends, "c", false, true, false);
        claims(ends, "a", false, true, true);
        ends.rule("b", "d");
        ends.search("a");
        claims(ends, "d", false, true, true);
        claims(ends, "c", false, true, false);
        Bench ring = usual();
        ring.rule("a", "b");
        ring.rule("b", "c");
        ring.rule("c", "a");
        ring.search("a");
        claims(ring, "c", false, true, true);
        claims(ring, "d", false, false, false);
        ring.rule("b", "d");
        ring.search("a");
        claims(ring, "c", false, true, false);
        claims(ring, "d", false, true, false);
        claims(ring, "b", false, true, true);
        ring.rule("d", "c");
        ring.search("a");
        claims(ring, "c", false, true, true);
        claims(ring, "d", false, true, false);
    }

    /** "If claim is none of these". */
    private static void noClaims() {
        Bench b = usual();
        b.search("a");
        b.put("x0");
        for (int claim : new int[] {MIN, -1, 3, MAX}) {
            Bench.argument("holds(" + claim + ")", () -> b.x.holds(claim) ? 1 : 0);
        }
        for (int claim = 0; claim <= 2; claim++) {
            Bench.due("holds(" + claim + ")", b.x.holds(claim), true);
        }
        b.x.drop();
        b.put("m(x0,x1,x2)");
        Bench.due("three variables", b.x.holds(SURE), true);
    }

    public static void main(String[] args) {
        twentyFourStates();
        matches();
        twoHundredSteps();
        sixtySteps();
        threeDeep();
        failures();
        inPlace();
        variablesOfTerms();
        states();
        finds();
        oneState();
        someStates();
        sure();
        noClaims();
        Bench.end();
    }
}
