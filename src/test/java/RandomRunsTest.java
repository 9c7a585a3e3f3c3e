import java.util.ArrayList;
import java.util.List;
import java.util.TreeMap;

/** Runs of calls that are made up by numbers, each of which RuleForge and PlainForge have to answer alike. */
public final class RandomRunsTest {
    private static final int MOST_CALLS = 1500;

    private final RuleForge x = new RuleForge();
    private final PlainForge y = new PlainForge();
    private final StringBuilder log = new StringBuilder();
    private long seed;
    private int operators;
    private int rules;
    private int wrong;
    private int calls;
    private int[] favourites;
    private final List<PlainForge.T> lefts = new ArrayList<>();
    private final List<PlainForge.T> ruleLefts = new ArrayList<>();
    private static final TreeMap<String, Integer> SEEN = new TreeMap<>();

    /** 1: above all FREE operators and no conditions, 2: rows and bags, 3: conditions. */
    private final int profile;

    private RandomRunsTest(long seed) {
        this.seed = seed * 0x9E3779B97F4A7C15L + 12345;
        profile = (int) (seed % 4);
    }

    private int below(int bound) {
        seed = seed * 6364136223846793005L + 1442695040888963407L;
        long mixed = (seed >>> 33) * 0x2545F4914F6CDD1DL;
        return (int) ((mixed >>> 20) % bound);
    }

    private boolean oneIn(int n) {
        return below(n) == 0;
    }

    private interface Call {
        long on();
    }

    private static String answer(Call call) {
        try {
            return Long.toString(call.on());
        } catch (IndexOutOfBoundsException e) {
            return e.getClass() == IndexOutOfBoundsException.class ? "throws index" : "the machine throws " + e;
        } catch (IllegalArgumentException e) {
            return e.getClass() == IllegalArgumentException.class ? "throws argument" : "the machine throws " + e;
        } catch (IllegalStateException e) {
            return "throws state";
        }
    }

    private String both(String name, Call mine, Call plain) {
        String got = answer(mine);
        String want = answer(plain);
        calls++;
        log.append("  ").append(name).append(" -> ").append(want).append('\n');
        boolean isCount = name.equals("search()") || name.equals("complete()");
        String kind = isCount && want.length() < 3 ? name + want : name.substring(0, name.indexOf('(')) + (want.startsWith("throws") ? " " + want
                : want.equals("-1") || want.equals("-2") || want.equals("0") ? " " + want : " other");
        SEEN.merge(kind, 1, Integer::sum);
        if (!got.equals(want)) {
            wrong++;
            System.out.println(log + "  here the answer was " + got);
        }
        return want;
    }

    private static long bit(boolean b) {
        return b ? 1 : 0;
    }

    private void compareTop() {
        int place = 0;
        String a = "";
        while (wrong == 0 && place < 21 && !a.startsWith("throws")) {
            int p = place;
            a = answer(() -> y.code(p));
            String b = answer(() -> x.code(p));
            if (!a.equals(b)) {
                wrong++;
                System.out.println(log + "  here the top's place " + p + " was " + b + ", due is " + a);
            }
            place++;
        }
    }

    private void operator(int arity, int axioms, int identity) {
        both("operator(" + arity + ", " + axioms + ", " + identity + ")", () -> x.operator(arity, axioms, identity),
                () -> y.operator(arity, axioms, identity));
        operators = y.operators.size();
    }

    private void declare(int o, int r, int a, int b, int c) {
        both("declare(" + o + ", " + r + ", " + a + ", " + b + ", " + c + ")", () -> x.declare(o, r, a, b, c),
                () -> y.declare(o, r, a, b, c));
    }

    private void tellSignature() {
        int sorts = 1 + below(3);
        for (int i = 0; i < sorts; i++) {
            both("sort()", () -> x.sort(), () -> y.sort());
        }
        for (int i = 0; i < sorts; i++) {
            int a = below(sorts), b = below(sorts);
            both("below(" + a + ", " + b + ")", () -> bit(x.below(a, b)), () -> bit(y.below(a, b)));
        }
        int constants = 2 + below(4);
        for (int i = 0; i < constants; i++) {
            operator(0, 0, -1);
        }
        int others = 3 + below(5);
        for (int i = 0; i < others; i++) {
            int axioms = profile == 1 && !oneIn(6) || oneIn(2) ? 0 : below(4);
            axioms = profile == 2 && oneIn(2) ? 2 + below(2) : axioms;
            operator(axioms == 0 ? 1 + below(3) : 2, axioms, axioms >= 2 && !oneIn(3) ? below(constants) : -1);
        }
        favourites = new int[3];
        for (int i = 0; i < 3; i++) {
            favourites[i] = below(operators);
        }
        int own = below(6);
        for (int o = 0; o < operators; o++) {
            int n = oneIn(20) ? 0 : 1 + below(Math.min(own, 2) + 1);
            for (int i = 0; i < n; i++) {
                boolean isPlain = own < 2 || own < 4 && oneIn(2);
                int top = sorts - 1;
                declare(o, isPlain ? below(sorts) : top, isPlain ? below(sorts) : top, isPlain ? below(sorts) : top,
                        isPlain ? below(sorts) : top);
            }
        }
        for (int i = 0; i < 6; i++) {
            int v = i, s = own < 4 && oneIn(2) ? below(sorts) : sorts - 1;
            both("variable(" + v + ", " + s + ")", () -> x.variable(v, s), () -> y.variable(v, s));
        }
    }

    private void term(int v) {
        both("term(" + v + ")", () -> x.term(v), () -> y.term(v));
    }

    private void apply(int o) {
        both("apply(" + o + ")", () -> x.apply(o), () -> y.apply(o));
    }

    /** A term with the given number of different variables, at most so deep, not put in its form. */
    private PlainForge.T some(int depth, int variables) {
        if (variables > 0 && oneIn(depth == 0 ? 2 : 4)) {
            return y.v(below(variables));
        }
        int o = oneIn(2) ? favourites[below(favourites.length)] : below(operators);
        for (int i = 0; i < 12 && (depth == 0) != (y.operators.get(o)[0] == 0); i++) {
            o = oneIn(2) ? favourites[below(favourites.length)] : below(operators);
        }
        int arity = y.operators.get(o)[0];
        List<PlainForge.T> arguments = new ArrayList<>();
        for (int i = 0; i < arity; i++) {
            arguments.add(depth <= 0 ? y.v(below(3)) : some(depth - 1, variables));
        }
        return new PlainForge.T(-1, o, arguments);
    }

    /** The term with others in place of its variables. */
    private PlainForge.T instance(PlainForge.T t, PlainForge.T[] given) {
        if (t.isVariable()) {
            return given[t.variable];
        }
        List<PlainForge.T> arguments = new ArrayList<>();
        for (PlainForge.T a : t.arguments) {
            arguments.add(instance(a, given));
        }
        return new PlainForge.T(-1, t.operator, arguments);
    }

    private PlainForge.T someInstance(PlainForge.T t) {
        PlainForge.T[] given = new PlainForge.T[10];
        for (int i = 0; i < 10; i++) {
            given[i] = some(oneIn(3) ? 2 : below(2), oneIn(4) ? 2 : 0);
        }
        return instance(t, given);
    }

    private PlainForge.T inSome(PlainForge.T t) {
        int o = below(operators);
        int arity = y.operators.get(o)[0];
        if (arity == 0 || oneIn(2)) {
            return t;
        }
        List<PlainForge.T> arguments = new ArrayList<>();
        int place = below(arity);
        for (int i = 0; i < arity; i++) {
            arguments.add(i == place ? t : some(below(2), 0));
        }
        return inSome(new PlainForge.T(-1, o, arguments));
    }

    private void build(PlainForge.T t) {
        if (t.isVariable()) {
            term(t.variable);
            return;
        }
        for (PlainForge.T a : t.arguments) {
            build(a);
        }
        apply(t.operator);
    }

    private void build(int depth, int variables) {
        build(some(depth, variables));
    }

    private void tell(boolean isRule) {
        int before = y.stack.size();
        PlainForge.T left = some(1 + below(3), 1 + below(3));
        build(left);
        List<Integer> variables = new ArrayList<>(left.variables());
        PlainForge.T[] known = new PlainForge.T[10];
        for (int i = 0; i < 10; i++) {
            known[i] = variables.isEmpty() || oneIn(20) ? some(0, 0) : y.v(variables.get(below(variables.size())));
        }
        List<PlainForge.T> places = left.places();
        build(oneIn(2) ? instance(some(below(3), 3), known) : places.get(below(places.size())));
        boolean hasCondition = profile == 1 ? oneIn(20) : profile == 3 ? !oneIn(3) : oneIn(3);
        if (hasCondition) {
            build(instance(some(below(3), 2), known));
            build(instance(some(below(2), 2), known));
        }
        if (both("tell(" + isRule + ", " + hasCondition + ")", () -> x.tell(isRule, hasCondition),
                () -> y.tell(isRule, hasCondition)).length() < 3) {
            (isRule ? ruleLefts : lefts).add(left);
        }
        rules = y.ruleList.size();
        if (y.stack.size() > before + 3) {
            both("drop()", () -> x.drop(), () -> y.drop());
        }
    }

    private void subject() {
        subject(lefts);
    }

    private void subject(List<PlainForge.T> likes) {
        if (y.stack.size() > 5) {
            both("drop()", () -> x.drop(), () -> y.drop());
        }
        boolean isAny = likes.isEmpty() || oneIn(4);
        build(isAny ? some(1 + below(4), oneIn(3) ? 2 : 0) : inSome(someInstance(likes.get(below(likes.size())))));
    }

    private void act() {
        int k = below(100);
        int place = below(5) - 1;
        int v = below(4);
        if (k < (y.equationList.size() < (profile == 1 ? 6 : 3) ? 6 : 1)) {
            tell(false);
        } else if (k < (y.ruleList.size() < 3 ? 9 : 3)) {
            tell(true);
        } else if (k < 20) {
            subject();
            both("reduce()", () -> x.reduce(), () -> y.reduce());
        } else if (k < 25) {
            both("reduce()", () -> x.reduce(), () -> y.reduce());
        } else if (k < 30) {
            both("fitting()", () -> x.fitting(), () -> y.fitting());
            both("matching()", () -> x.matching(), () -> y.matching());
        } else if (k < 45) {
            if (y.stack.size() > 5) {
                both("drop()", () -> x.drop(), () -> y.drop());
            }
            PlainForge.T pattern = some(1 + below(3), 1 + below(3));
            build(pattern);
            build(oneIn(3) ? some(1 + below(3), 1) : someInstance(pattern));
            both("matches()", () -> x.matches(), () -> y.matches());
            both("matchesAnew()", () -> x.matchesAnew(), () -> y.matchesAnew());
            both("match(" + place + ", " + v + ")", () -> x.match(place, v), () -> y.match(place, v));
            compareMatches();
        } else if (k < 52) {
            subject(ruleLefts);
            both("search()", () -> x.search(), () -> y.search());
            both("isCut()", () -> bit(x.isCut()), () -> bit(y.isCut()));
            int s = below(8);
            both("cameBy(" + s + ")", () -> x.cameBy(s), () -> y.cameBy(s));
            both("state(" + s + ")", () -> x.state(s), () -> y.state(s));
        } else if (k < 60) {
            build(below(2), 2);
            both("finds(" + place + ")", () -> x.finds(place), () -> y.finds(place));
            both("holds(" + v + ")", () -> bit(x.holds(v)), () -> bit(y.holds(v)));
            both("holds(2)", () -> bit(x.holds(2)), () -> bit(y.holds(2)));
        } else if (k < 75) {
            plan(k);
        } else if (k < 78) {
            both("pairs()", () -> x.pairs(), () -> y.pairs());
            for (int i = 0; i < (profile == 1 ? 10 : 2); i++) {
                int p = below(oneIn(4) ? 60 : 6);
                both("joins(" + p + ")", () -> x.joins(p), () -> y.joins(p));
            }
        } else if (k < 80) {
            if (profile == 1 && oneIn(2)) {
                both("complete()", () -> x.complete(), () -> y.complete());
            }
            both("equations()", () -> x.equations(), () -> y.equations());
        } else {
            actMore(k, place, v);
        }
        compareTop();
    }

    private void compareMatches() {
        if (y.stack.size() < 2 || y.stack.get(y.stack.size() - 2).variables().size() > 3) {
            return;
        }
        int count = y.matches();
        for (int i = 0; i < count && i < 40 && y.stack.size() < 8; i++) {
            int place = count <= 40 ? i : below(count);
            int v = below(3);
            String did = both("match(" + place + ", " + v + ")", () -> x.match(place, v), () -> y.match(place, v));
            compareTop();
            if (!did.startsWith("throws")) {
                both("keep(19)", () -> x.keep(19), () -> y.keep(19));
            }
        }
    }

    private void plan(int k) {
        int r = below(rules + 1);
        if (k < 64) {
            both("use(" + r + ")", () -> x.use(r), () -> y.use(r));
        } else if (k < 66) {
            both("idle()", () -> x.idle(), () -> y.idle());
        } else if (k < 67) {
            build(below(2), 2);
            both("test()", () -> x.test(), () -> y.test());
        } else if (k < 69) {
            boolean isThen = oneIn(2);
            both("both(" + isThen + ")", () -> bit(x.both(isThen) > 0), () -> bit(y.both(isThen) > 0));
        } else if (k < 71) {
            both("many()", () -> x.many(), () -> y.many());
        } else {
            if (oneIn(2)) {
                subject(ruleLefts);
            }
            both("run()", () -> x.run(), () -> y.run());
        }
    }

    private void actMore(int k, int place, int v) {
        int o = below(operators + 1) - (oneIn(10) ? 1 : 0);
        int w = below(5);
        int slot = below(21);
        int other = below(operators);
        if (k < 82) {
            both("weight(" + o + ", " + place + ", " + w + ")", () -> x.weight(o, place, w), () -> y.weight(o, place, w));
        } else if (k < 84) {
            both("descends(" + w + ")", () -> bit(x.descends(w)), () -> bit(y.descends(w)));
        } else if (k < 87) {
            both("view(" + o + ", " + other + ")", () -> x.view(o, other), () -> y.view(o, other));
        } else if (k < 88) {
            both("copy(" + w + ")", () -> x.copy(w), () -> y.copy(w));
        } else if (k < 90) {
            both("keep(" + slot + ")", () -> x.keep(slot), () -> y.keep(slot));
        } else if (k < 93) {
            both("load(" + slot + ")", () -> x.load(slot), () -> y.load(slot));
        } else if (k < 96) {
            subject();
            both("sortOf()", () -> x.sortOf(), () -> y.sortOf());
        } else if (k < 97) {
            both("below(" + place + ", " + v + ")", () -> bit(x.below(place, v)), () -> bit(y.below(place, v)));
        } else if (k < 98) {
            declare(o, v, v, place, v);
        } else {
            both("code(" + place + ")", () -> x.code(place), () -> y.code(place));
        }
    }

    private int go() {
        tellSignature();
        while (calls < MOST_CALLS && wrong == 0) {
            act();
        }
        return wrong;
    }

    public static void main(String[] args) {
        int from = args.length > 0 ? Integer.parseInt(args[0]) : 0;
        int to = args.length > 1 ? Integer.parseInt(args[1]) : 300;
        int wrong = 0;
        for (int i = from; i < to && wrong < 3; i++) {
            if (args.length > 2) {
                System.out.println("run " + i);
            }
            int before = wrong;
            wrong += new RandomRunsTest(i).go();
            if (wrong > before) {
                System.out.println("that was run " + i);
            }
        }
        if (args.length > 1) {
            System.out.println(SEEN);
        }
        System.out.println(wrong == 0 ? "all runs agree" : "there are runs that do not agree");
        System.exit(wrong == 0 ? 0 : 1);
    }
}
