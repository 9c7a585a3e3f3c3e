import java.util.ArrayList;
import java.util.List;

/** A RuleForge whose operators have names, with terms told and shown as texts, and what the tests check with. */
final class Bench {
    private static int right = 0;
    private static int wrong = 0;

    final RuleForge x = new RuleForge();
    private final List<String> names = new ArrayList<>();
    private final List<Integer> axioms = new ArrayList<>();
    private String text = "";
    private int at;

    interface Call {
        long on();
    }

    // ---- checks

    static void due(String what, long got, long want) {
        due(what, Long.toString(got), Long.toString(want));
    }

    static void due(String what, boolean got, boolean want) {
        due(what, Boolean.toString(got), Boolean.toString(want));
    }

    static void due(String what, String got, String want) {
        if (got.equals(want)) {
            right++;
        } else {
            wrong++;
            System.out.println(what + ": answered " + got + ", due is " + want);
        }
    }

    static void index(String what, Call call) {
        due(what, thrown(call), "IndexOutOfBoundsException");
    }

    static void argument(String what, Call call) {
        due(what, thrown(call), "IllegalArgumentException");
    }

    static void state(String what, Call call) {
        due(what, thrown(call), "IllegalStateException");
    }

    private static String thrown(Call call) {
        try {
            return "no exception but " + call.on();
        } catch (RuntimeException e) {
            return e.getClass().getSimpleName();
        }
    }

    static void end() {
        System.out.println("  " + right + " answers are as due, " + wrong + " are not");
        System.exit(wrong == 0 && right > 0 ? 0 : 1);
    }

    // ---- operators

    /** Without declarations. */
    int bare(String name, int arity, int itsAxioms, String identity) {
        int number = x.operator(arity, itsAxioms, identity.isEmpty() ? RuleForge.NONE : number(identity));
        names.add(name);
        axioms.add(itsAxioms);
        return number;
    }

    /** With one declaration, all of whose sorts are 0. */
    int op(String name, int arity, int itsAxioms, String identity) {
        int number = bare(name, arity, itsAxioms, identity);
        x.declare(number, 0, 0, 0, 0);
        return number;
    }

    int op(String name, int arity) {
        return op(name, arity, RuleForge.FREE, "");
    }

    /** Constants, told behind one another. */
    Bench constants(String some) {
        for (String name : some.split(" ")) {
            op(name, 0);
        }
        return this;
    }

    int number(String name) {
        int number = names.indexOf(name);
        if (number < 0) {
            throw new IllegalArgumentException("no operator has the name " + name);
        }
        return number;
    }

    /** One sort, the constants a to e, i and o, and s/1, g/2, h/3, a PAIR p, a ROW r and a BAG m, both with the identity i. */
    static Bench usual() {
        Bench bench = new Bench();
        bench.x.sort();
        bench.constants("a b c d e i o");
        bench.op("s", 1);
        bench.op("g", 2);
        bench.op("h", 3);
        bench.op("p", 2, RuleForge.PAIR, "");
        bench.op("r", 2, RuleForge.ROW, "i");
        bench.op("m", 2, RuleForge.BAG, "i");
        return bench;
    }

    /** Three sorts, and operators with all axioms; no equations and rules. */
    static Bench sorted() {
        Bench b = new Bench();
        for (int i = 0; i < 3; i++) {
            b.x.sort();
        }
        b.x.below(0, 1);
        b.x.variable(1, 1);
        b.x.variable(2, 2);
        b.constants("a b c i");
        b.op("s", 1);
        b.op("g", 2);
        b.op("h", 3);
        b.op("p", 2, RuleForge.PAIR, "");
        b.op("r", 2, RuleForge.ROW, "i");
        b.op("m", 2, RuleForge.BAG, "i");
        b.op("n", 2, RuleForge.BAG, "");
        b.x.declare(b.number("s"), 1, 1, 0, 0);
        return b;
    }

    /** The same with some of everything else: equations, rules, weights, views, a search, strategies, slots and terms. */
    static Bench rich() {
        Bench b = sorted();
        b.equation("s(s(x0))", "x0");
        b.equation("g(x0,c)", "b", "x0", "c");
        b.equation("s(g(x0,x1))", "h(x0,x1,a)");
        b.rule("a", "b");
        b.rule("b", "c", "a", "a");
        b.rule("g(x0,x1)", "g(x1,x0)");
        b.x.weight(b.number("s"), 0, 2);
        b.x.weight(b.number("g"), 2, 3);
        b.x.view(b.number("a"), b.number("b"));
        b.search("g(a,b)");
        b.x.use(0);
        b.put("g(x0,x3)").x.test();
        b.x.use(2);
        b.x.both(true);
        b.put("s(x0)").x.keep(0);
        b.put("m(a,b)").x.keep(19);
        return b.put("n(x0,x3)").put("n(a,b,c)").put("g(s(s(a)),b)");
    }

    // ---- terms

    /** Puts a term on the stack, as g(x0,s(a)); an operator of the arity 2 is put on more arguments from the left. */
    Bench put(String term) {
        text = term;
        at = 0;
        read();
        if (at != text.length()) {
            throw new IllegalArgumentException("behind the term: " + term.substring(at));
        }
        return this;
    }

    private void read() {
        int from = at;
        while (at < text.length() && Character.isLetterOrDigit(text.charAt(at))) {
            at++;
        }
        String name = text.substring(from, at);
        if (name.matches("x[0-9]")) {
            x.term(name.charAt(1) - '0');
            return;
        }
        int number = number(name);
        int count = 0;
        boolean isOpen = at < text.length() && text.charAt(at) == '(';
        while (isOpen) {
            at++;
            read();
            count++;
            if (count > 1 && axioms.get(number) != RuleForge.FREE) {
                x.apply(number);
            }
            isOpen = text.charAt(at) == ',';
        }
        at += count > 0 ? 1 : 0;
        if (axioms.get(number) == RuleForge.FREE) {
            x.apply(number);
        }
    }

    /** A unary operator so many times on a term. */
    static String times(String name, int count, String term) {
        return (name + "(").repeat(count) + term + ")".repeat(count);
    }

    String top() {
        at = 0;
        return shown();
    }

    private String shown() {
        int code = x.code(at);
        at++;
        if (code >= 1000) {
            return "x" + (code - 1000);
        }
        StringBuilder all = new StringBuilder(names.get(code / 10));
        for (int i = 0; i < code % 10; i++) {
            all.append(i == 0 ? "(" : ",").append(shown());
        }
        return all.append(code % 10 > 0 ? ")" : "").toString();
    }

    /** The form that a term is put in. */
    String form(String term) {
        x.drop();
        return put(term).top();
    }

    String matches(String pattern, String subject) {
        x.drop();
        put(pattern);
        put(subject);
        return x.matches() + " " + x.matchesAnew();
    }

    /** What each match gives a variable. */
    String given(String pattern, String subject, int variable) {
        x.drop();
        put(pattern);
        put(subject);
        StringBuilder all = new StringBuilder();
        int count = x.matches();
        for (int i = 0; i < count; i++) {
            x.match(i, variable);
            all.append(i == 0 ? "" : " ").append(top());
            x.keep(19);
        }
        return all.toString();
    }

    int sort(String term) {
        x.drop();
        return put(term).x.sortOf();
    }

    // ---- equations, rules, searches

    int equation(String left, String right) {
        return put(left).put(right).x.tell(false, false);
    }

    int equation(String left, String right, String one, String other) {
        return put(left).put(right).put(one).put(other).x.tell(false, true);
    }

    int rule(String left, String right) {
        return put(left).put(right).x.tell(true, false);
    }

    int rule(String left, String right, String one, String other) {
        return put(left).put(right).put(one).put(other).x.tell(true, true);
    }

    /** The steps and the normal form. */
    String reduced(String term) {
        x.drop();
        put(term);
        return x.reduce() + " " + top();
    }

    int search(String term) {
        x.drop();
        return put(term).x.search();
    }

    String states(int count) {
        x.drop();
        StringBuilder all = new StringBuilder();
        for (int i = 0; i < count; i++) {
            x.state(i);
            all.append(i == 0 ? "" : " ").append(top());
            x.drop();
        }
        return all.toString();
    }

    boolean holds(int claim, String pattern) {
        x.drop();
        return put(pattern).x.holds(claim);
    }

    /** The USEs and what comes of the last strategy. */
    String run(String term) {
        x.drop();
        put(term);
        return x.run() + " " + top();
    }
}
