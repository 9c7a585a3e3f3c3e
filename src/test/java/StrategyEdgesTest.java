/** The sentences on strategies (promises 28 to 33) that name a boundary, each by itself. */
public final class StrategyEdgesTest {
    private static final int MIN = Integer.MIN_VALUE, MAX = Integer.MAX_VALUE;

    /** The usual one with a BAG n without identity, and the rules a to a, s(x0) to x0, and b to c. */
    private static Bench usual() {
        Bench b = Bench.usual();
        b.op("n", 2, RuleForge.BAG, "");
        b.rule("a", "a");
        b.rule("s(x0)", "x0");
        b.rule("b", "c");
        return b;
    }

    // ---- the stack of strategies

    /** "Returns how many strategies there are then": 8 at the most, of each kind. */
    private static void eightStrategies() {
        Bench b = usual();
        for (int i = 0; i < 7; i++) {
            Bench.due("the strategy " + i, i % 2 == 0 ? b.x.use(0) : b.x.idle(), i + 1);
        }
        b.put("x0");
        Bench.due("the last one, a TEST", b.x.test(), 8);
        Bench.due("its pattern is gone", b.x.drop(), 0);
        b.put("x0");
        Bench.state("use() with 8", () -> b.x.use(0));
        Bench.state("idle() with 8", () -> b.x.idle());
        Bench.state("test() with 8", () -> b.x.test());
        Bench.due("the pattern stays", b.top(), "x0");
        Bench.due("many() with 8", b.x.many(), 8);
        Bench.due("both() with 8", b.x.both(false), 7);
        Bench.due("use() with 7", b.x.use(2), 8);
        Bench.due("run() with 8", b.x.run(), -1);
        Bench.due("use() with 7", b.x.use(2), 8);
        Bench.state("use() with 8 again", () -> b.x.use(2));
    }

    /** "If there are not two", "if there is none". */
    private static void tooFew() {
        Bench b = usual();
        Bench.state("many() of none", () -> b.x.many());
        Bench.state("both(true) of none", () -> b.x.both(true));
        Bench.state("both(false) of none", () -> b.x.both(false));
        b.put("a");
        Bench.state("run() of none", () -> b.x.run());
        b.x.idle();
        Bench.state("both(true) of one", () -> b.x.both(true));
        Bench.state("both(false) of one", () -> b.x.both(false));
        Bench.due("many() of one", b.x.many(), 1);
        Bench.due("one more", b.x.idle(), 2);
        Bench.due("both() of two", b.x.both(true), 1);
        b.x.drop();
        Bench.state("run() without a top", () -> b.x.run());
        Bench.state("test() without a top", () -> b.x.test());
        b.put("a");
        Bench.due("the strategy is there", b.x.run(), -2);
        Bench.state("it is gone then", () -> b.x.run());
    }

    /** "A rule": 0 to the last one. */
    private static void rules() {
        Bench none = Bench.usual();
        for (int rule : new int[] {MIN, -1, 0, MAX}) {
            Bench.index("use(" + rule + ") without rules", () -> none.x.use(rule));
        }
        Bench b = usual();
        for (int rule : new int[] {MIN, -1, 3, MAX}) {
            Bench.index("use(" + rule + ") of 3", () -> b.x.use(rule));
        }
        Bench.due("use(0)", b.x.use(0), 1);
        Bench.due("use(2)", b.x.use(2), 2);
        Bench.due("the last one", b.run("b"), "1 c");
        Bench.due("the first one", b.run("b"), "-1 b");
        for (int i = 3; i < 8; i++) {
            b.rule("d", "e");
        }
        Bench.due("use(7) of 8", b.x.use(7), 1);
        Bench.index("use(8) of 8", () -> b.x.use(8));
        Bench.due("the last of 8", b.run("d"), "1 e");
    }

    /** "It would have more than 30 parts": 29, 30 and 31, by many() and by both(). */
    private static void thirtyParts() {
        for (int second = 1; second <= 29; second += 7) {
            for (int parts = 29; parts <= 31; parts++) {
                int first = parts - 1 - second;
                for (boolean isThen : new boolean[] {false, true}) {
                    if (first >= 1) {
                        joined(first, second, isThen, parts <= 30);
                    }
                }
            }
        }
        Bench b = usual();
        b.x.use(2);
        for (int parts = 2; parts <= 30; parts++) {
            Bench.due("many() to " + parts, b.x.many(), 1);
        }
        Bench.state("many() to 31", () -> b.x.many());
        Bench.due("30 MANYs", b.run("d"), "-2 d");
    }

    /** Both are told by the USEs that they take on a term to which each of their rules can be used once. */
    private static void joined(int first, int second, boolean isThen, boolean isDue) {
        Bench b = usual();
        sized(b, first, 2);
        sized(b, second, 1);
        int ofFirst = first % 2 == 1 ? 1 : 2;
        int ofSecond = second % 2 == 1 ? 1 : 2;
        String what = first + " and " + second + " parts";
        if (isDue) {
            Bench.due(what, b.x.both(isThen), 1);
            Bench.due(what + " as one", b.run("g(b,s(d))"), isThen ? ofFirst + ofSecond + " g(c,d)" : ofFirst + " g(c,s(d))");
        } else {
            Bench.state(what, () -> b.x.both(isThen));
            Bench.due(what + ", the second one", b.run("g(b,s(d))"), ofSecond + " g(b,d)");
            Bench.due(what + ", the first one", b.run("g(b,s(d))"), ofFirst + " g(c,s(d))");
        }
    }

    /** USE of a rule, and as many parts more as are wanted: IDLEs, and a MANY, by which it takes one that fails, too. */
    private static void sized(Bench b, int parts, int rule) {
        b.x.use(rule);
        for (int k = 1; k + 1 < parts; k += 2) {
            b.x.idle();
            b.x.both(true);
        }
        if (parts % 2 == 0) {
            b.x.many();
        }
    }

    // ---- running

    /** "Broken off with more than 30 USEs"; "those that failed included". */
    private static void thirtyUses() {
        for (int uses = 29; uses <= 31; uses++) {
            Bench b = usual();
            b.x.use(1);
            b.x.many();
            for (int i = 20; i < uses; i++) {
                b.x.use(0);
                b.x.both(true);
            }
            String term = "g(a," + Bench.times("s", 17, "a") + ")";
            b.x.drop();
            b.put(term);
            Bench.due("18 and " + (uses - 20) + " USEs", b.x.run(), uses - 2);
        }
        for (int uses = 29; uses <= 31; uses++) {
            Bench b = usual();
            b.x.use(1);
            b.x.many();
            for (int i = 20; i < uses; i++) {
                b.x.use(0);
                b.x.both(true);
            }
            String term = Bench.times("s", 19, "a");
            Bench.due("20 and " + (uses - 20) + " USEs", b.run(term), uses <= 30 ? uses + " a" : "-2 " + term);
        }
        Bench b = usual();
        b.x.use(2);
        b.x.use(1);
        b.x.both(false);
        b.x.many();
        Bench.due("those that fail count", b.run(Bench.times("s", 14, "a")), "30 a");
        b.x.use(2);
        b.x.use(1);
        b.x.both(false);
        b.x.many();
        Bench.due("those that fail count, too many", b.run(Bench.times("s", 15, "a")), "-2 " + Bench.times("s", 15, "a"));
        b.x.use(2);
        Bench.due("a USE that fails", b.run("a"), "-1 a");
        b.x.idle();
        Bench.due("no USE", b.run("a"), "0 a");
    }

    /** A strategy of two digits below 6, which goes down by one with each round and its USE. */
    private static Bench counter() {
        Bench b = Bench.usual();
        b.op("t", 2);
        b.equation("t(s(x0),x1)", "g(x0,x1)");
        b.equation("t(a,s(x0))", "g(" + Bench.times("s", 5, "a") + ",x0)");
        b.rule("g(x0,x1)", "t(x0,x1)");
        return b;
    }

    private static void round(Bench b) {
        b.put("g(x0,x1)").x.test();
        b.x.use(0);
        b.x.both(true);
        b.x.many();
    }

    private static String digits(int number) {
        return "g(" + Bench.times("s", number % 6, "a") + "," + Bench.times("s", number / 6, "a") + ")";
    }

    /** "More than 30 rounds of one MANY, one behind the other": the last one being that which fails. */
    private static void thirtyRounds() {
        for (int rounds = 1; rounds <= 31; rounds++) {
            Bench b = counter();
            if (rounds == 1) {
                round(b);
                Bench.due("a round that fails", b.run("t(a,a)"), "0 t(a,a)");
            } else {
                round(b);
                String term = digits(rounds - 2);
                Bench.due(rounds + " rounds", b.run(term), rounds <= 30 ? rounds - 1 + " t(a,a)" : "-2 " + term);
            }
        }
        Bench b = usual();
        b.x.idle();
        b.x.many();
        Bench.due("rounds without end", b.run("a"), "-2 a");
        b.put("s(x0)").x.test();
        b.x.many();
        Bench.due("rounds without USEs, of which the first one fails", b.run("a"), "0 a");
        b.put("s(x0)").x.test();
        b.x.many();
        Bench.due("rounds without USEs and without end", b.run("s(a)"), "-2 s(a)");
        apart();
    }

    /** The rounds of another MANY, and those of the same one at another time, do not count. */
    private static void apart() {
        Bench b = counter();
        b.rule("h(x0,x1,x2)", "g(x1,x2)");
        b.rule("t(a,a)", digits(13));
        round(b);
        b.x.use(2);
        b.x.both(true);
        round(b);
        b.x.both(true);
        Bench.due("16 and 15 rounds of two", b.run(digits(14)), "30 t(a,a)");
        Bench again = counter();
        again.rule("h(t(a,a),s(x0),a)", "h(" + digits(13) + ",x0,a)");
        again.put("h(g(x0,x1),x2,a)").x.test();
        again.x.use(0);
        again.x.both(true);
        again.x.many();
        again.put("h(t(a,a),s(x0),a)").x.test();
        again.x.use(1);
        again.x.both(true);
        again.x.both(true);
        again.x.many();
        Bench.due("16 and 15 rounds of one", again.run("h(" + digits(14) + ",s(a),a)"), "30 h(" + digits(13) + ",a,a)");
    }

    /** "Fails if there is none by its first 150 matches"; the last one that holds is the match 149, 150 or 151. */
    private static void matches() {
        Bench b = usual();
        b.rule("n(x0,x1,x2)", "o", "g(x0,x1)", "g(n(c,d,e),b)");
        b.rule("n(x0,x1,x2)", "o", "g(x0,x1)", "g(n(c,d,e),a)");
        b.rule("n(x0,x1,x2)", "o", "x0", "n(a,c,d)");
        b.rule("n(x0,x1,x2)", "o");
        b.x.use(3);
        Bench.due("by the match 150", b.run("n(a,b,c,d,e)"), "1 o");
        b.x.use(4);
        Bench.due("by the match 149", b.run("n(a,b,c,d,e)"), "1 o");
        b.x.use(5);
        Bench.due("by one of the others", b.run("n(a,b,c,d,e)"), "1 o");
        b.x.use(6);
        Bench.due("by the match 1", b.run("n(a,b,c,d,e)"), "1 o");
        b.rule("n(x0,x1,x2)", "o", "x0", "a");
        String many = "g(n(b,c,d,e,i),n(a,b,c))";
        b.x.use(7);
        Bench.due("not by the match 151", b.run(many), "-1 " + many);
        b.x.use(7);
        b.x.use(2);
        b.x.both(false);
        Bench.due("another one then", b.run(many), "2 " + many.replace("n(b,c,d,e,i)", "n(c,c,d,e,i)"));
        b.x.use(7);
        Bench.due("by the match 37, at another place", b.run("g(n(b,c,d,e),n(a,b,c))"), "1 g(n(b,c,d,e),o)");
    }

    /** Each of the 30 matches of the rule 0 takes 6 steps, and does not hold. */
    private static Bench sixSteps() {
        Bench b = new Bench();
        b.x.sort();
        b.constants("k0 k1 k2 k3 k4 k5 a b c d e z w o");
        b.op("n", 2, RuleForge.BAG, "");
        b.op("s", 1);
        for (int i = 0; i < 5; i++) {
            b.equation("k" + i, "k" + (i + 1));
        }
        b.equation("s(x0)", "x0");
        b.equation("w", Bench.times("s", 18, "a"));
        b.rule("n(x0,x1)", "z", "k0", "z");
        return b;
    }

    /** "If a match of these 150 would be used behind 200 steps that its USEs took in all". */
    private static void twoHundredSteps() {
        for (int steps = 24; steps <= 27; steps++) {
            String term = "n(w," + Bench.times("s", steps - 19, "b") + ",c,d,e)";
            Bench b = sixSteps();
            b.rule("o", term);
            b.x.use(1);
            b.x.use(0);
            b.x.both(true);
            Bench.due("the last match behind " + (174 + steps), b.run("o"), steps <= 25 ? "-1 o" : "-2 o");
            b.x.use(0);
            b.x.use(1);
            b.x.both(false);
            Bench.due("counted anew", b.run("n(a,b,c,d,e)").substring(0, 2), "-1");
            b.x.use(0);
            Bench.due("steps of the first term do not count", b.run(term).substring(0, 2), "-1");
            b.x.use(0);
            b.x.use(0);
            b.x.both(false);
            Bench.due("a second USE behind 180 steps", b.run("n(a,b,c,d,e)").substring(0, 2), "-2");
        }
    }

    /** "On the top, reduced": with 60 steps, and with conditions 3 deep, counted anew. */
    private static void reducedFirst() {
        Bench b = new Bench();
        b.x.sort();
        b.constants("k0 k1 k2 k3 k4 k5 k6 c0 c1 c2 c3");
        b.op("g", 2);
        b.op("s", 1);
        for (int i = 0; i < 6; i++) {
            b.equation("k" + i, "k" + (i + 1));
        }
        b.equation("s(x0)", "x0");
        for (int i = 0; i < 3; i++) {
            b.equation("c" + i, "k6", "c" + (i + 1), "k6");
        }
        b.equation("c3", "k6");
        String ten = "g(".repeat(9) + "k0" + ",k0)".repeat(9);
        b.x.idle();
        Bench.due("60 steps", b.run(ten), "0 " + ten.replace("k0", "k6"));
        b.x.idle();
        Bench.due("61 steps", b.run("s(" + ten + ")"), "-2 s(" + ten + ")");
        b.x.idle();
        Bench.due("3 deep", b.run("c0"), "0 k6");
        b.rule("k6", ten);
        b.x.use(0);
        Bench.due("60 steps, and 60 of a USE", b.run("g(" + "g(".repeat(8) + "k0" + ",k0)".repeat(8) + ",c1)").substring(0, 2), "-2");
        b.x.use(0);
        Bench.due("60 steps of a USE", b.run("c0"), "1 " + ten.replace("k0", "k6"));
    }

    /** "NONE if it fails; FAILED if it is broken off, or reducing fails; the top stays in both cases." */
    private static void tops() {
        Bench b = usual();
        b.equation("e", "e");
        b.equation("d", "o");
        b.rule("o", "e");
        b.rule("c", Bench.times("s", 18, "c"));
        b.rule("i", "o", "e", "o");
        b.x.use(2);
        Bench.due("it fails, not reduced", b.run("s(d)"), "-1 s(d)");
        b.x.use(3);
        Bench.due("reducing fails in a USE", b.run("s(d)"), "-2 s(d)");
        b.x.use(5);
        Bench.due("reducing fails in a condition", b.run("s(i)"), "-2 s(i)");
        b.x.use(4);
        Bench.due("a size of 20", b.run("s(c)"), "1 " + Bench.times("s", 19, "c"));
        b.x.use(4);
        Bench.due("a size of 21", b.run("s(s(c))"), "-2 s(s(c))");
        b.x.idle();
        Bench.due("reducing fails at first", b.run("g(d,e)"), "-2 g(d,e)");
        b.x.idle();
        b.x.many();
        Bench.due("broken off, not reduced", b.run("s(d)"), "-2 s(d)");
        b.x.idle();
        Bench.due("reduced by nothing else", b.run("s(d)"), "0 s(o)");
        Bench.state("all strategies are gone", () -> b.x.run());
    }

    /** THEN "fails if one of both does"; ELSE runs the second one "if that fails"; neither if it is broken off. */
    private static void both() {
        int[][] due = {{1, -1, -2}, {-1, -1, -1}, {-2, -2, -2}};
        int[][] dueElse = {{1, 1, 1}, {1, -1, -2}, {-2, -2, -2}};
        for (int first = 0; first < 3; first++) {
            for (int second = 0; second < 3; second++) {
                for (boolean isThen : new boolean[] {true, false}) {
                    Bench b = usual();
                    kind(b, first);
                    kind(b, second);
                    b.x.both(isThen);
                    int want = (isThen ? due : dueElse)[first][second];
                    String term = "g(b,b)";
                    String got = b.run(term).split(" ")[0];
                    Bench.due("of " + first + " and " + second, Integer.signum(Integer.parseInt(got)) < 0 ? got : "1", "" + want);
                    Bench.due("the top", want < 0 ? b.top() : "g(b,b)", "g(b,b)");
                }
            }
        }
    }

    /** One that gives something, one that fails, or one that is broken off. */
    private static void kind(Bench b, int kind) {
        if (kind == 2) {
            b.x.idle();
            b.x.many();
        } else {
            b.x.use(kind == 0 ? 2 : 1);
        }
    }

    /** "TEST of the top term": "or it has too many variables". */
    private static void tests() {
        Bench b = usual();
        b.put("h(x0,x5,x9)");
        Bench.due("three variables", b.x.test(), 1);
        b.put("h(x0,x5,g(x9,x1))");
        Bench.state("four variables", () -> b.x.test());
        Bench.due("it stays", b.x.drop(), 1);
        Bench.due("it passes", b.run("h(a,b,c)"), "0 h(a,b,c)");
        b.put("a").x.test();
        Bench.due("without variables", b.run("a"), "0 a");
        b.put("a").x.test();
        Bench.due("it fails", b.run("b"), "-1 b");
        b.put(Bench.times("s", 19, "x9")).x.test();
        Bench.due("a size of 20", b.run(Bench.times("s", 19, "b")), "0 " + Bench.times("s", 19, "b"));
    }

    public static void main(String[] args) {
        eightStrategies();
        tooFew();
        rules();
        thirtyParts();
        thirtyUses();
        thirtyRounds();
        matches();
        twoHundredSteps();
        reducedFirst();
        tops();
        both();
        tests();
        Bench.end();
    }
}
