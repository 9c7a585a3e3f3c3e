/** What the calls show of an object, in parts: each of them is few enough calls for an object of its own. */
final class Shown {
    static final int PARTS = 11;
    /** No bench keeps anything there. */
    private static final int FREE_SLOT = 17;

    private final Bench b;
    private final RuleForge x;
    private final StringBuilder all = new StringBuilder();

    private Shown(Bench b) {
        this.b = b;
        x = b.x;
    }

    static String part(int part, Bench b) {
        Shown shown = new Shown(b);
        switch (part) {
            case 0: shown.sorts(); break;
            case 1: shown.variables(); break;
            case 2: shown.forms(); break;
            case 3: shown.identities(); break;
            case 4: shown.weightsAndViews(); break;
            case 5: shown.declarations(); break;
            case 6: shown.termsAndSlots(); break;
            case 7: shown.equationsAndRules(); break;
            case 8: shown.search(); break;
            case 9: shown.strategies(); break;
            default: shown.pairs(); break;
        }
        return shown.all.toString();
    }

    /** Notes what a call answers, and returns whether it did. */
    private boolean note(Bench.Call call) {
        try {
            all.append(call.on()).append(' ');
            return true;
        } catch (RuntimeException e) {
            all.append(e.getClass().getSimpleName()).append(' ');
            return false;
        }
    }

    /** Puts a term on an empty stack, if there are its operators. */
    private void put(String term) {
        x.drop();
        note(() -> b.put(term).x.code(0));
    }

    private void noteCodes(int most) {
        for (int k = 0; k < most; k++) {
            int place = k;
            if (!note(() -> x.code(place))) {
                return;
            }
        }
    }

    private void sorts() {
        for (int k = 0; k < 64; k++) {
            int pair = k;
            note(() -> x.below(pair / 8, pair % 8) ? 1 : 0);
        }
        for (int k = 0; k < 9; k++) {
            note(() -> x.sort());
        }
    }

    private void variables() {
        for (int k = 0; k < 10; k++) {
            int v = k;
            x.drop();
            x.term(v);
            note(() -> x.sortOf());
            note(() -> x.variable(v, 0));
        }
    }

    /** How many arguments each operator takes, and what it makes of them, and of that once more. */
    private void forms() {
        for (int k = 0; k <= 16; k++) {
            int o = k;
            x.drop();
            x.term(9);
            x.term(8);
            x.term(7);
            note(() -> x.apply(o));
            noteCodes(4);
            x.term(6);
            note(() -> x.apply(o));
            noteCodes(4);
        }
        for (int k = 0; k < 17; k++) {
            note(() -> x.operator(0, RuleForge.FREE, RuleForge.NONE));
        }
    }

    /** What each operator leaves out, as a match gives it. */
    private void identities() {
        for (int k = 0; k <= 16; k++) {
            int o = k;
            x.drop();
            x.term(0);
            x.term(3);
            note(() -> x.apply(o));
            x.term(4);
            note(() -> x.matches());
            note(() -> x.match(1, 0));
            note(() -> x.code(0));
        }
    }

    private void weightsAndViews() {
        for (int k = 0; k <= 16; k++) {
            int o = k;
            note(() -> x.view(o, o));
            for (int i = 0; i <= 3; i++) {
                int place = i;
                note(() -> x.weight(o, place, 1));
            }
        }
    }

    private void declarations() {
        for (int k = 0; k <= 16; k++) {
            int o = k;
            for (int v = 0; v < 3; v++) {
                x.drop();
                x.term(v);
                x.term(v);
                x.term(v);
                note(() -> x.apply(o));
                note(() -> x.sortOf());
            }
            note(() -> x.declare(o, 0, 0, 0, 0));
        }
    }

    private void termsAndSlots() {
        boolean isThere = true;
        for (int k = 0; k < 11 && isThere; k++) {
            noteCodes(21);
            isThere = note(() -> x.keep(FREE_SLOT));
        }
        for (int k = 0; k < 20; k++) {
            int slot = k;
            if (k != FREE_SLOT && note(() -> x.load(slot))) {
                noteCodes(21);
                x.drop();
            }
        }
    }

    private void equationsAndRules() {
        note(() -> x.equations());
        String[] terms = {"s(s(a))", "g(c,c)", "s(g(a,b))", "m(a,s(c))", "r(a,b)", "n(a,b)", "p(c,a)", "h(a,b,c)", "x1"};
        for (String term : terms) {
            put(term);
            note(() -> x.fitting());
            note(() -> x.matching());
            note(() -> x.reduce());
            noteCodes(5);
        }
        x.drop();
        for (int k = 0; k < 9; k++) {
            int rule = k;
            note(() -> x.use(rule));
            note(() -> x.idle());
            put("g(a,b)");
            note(() -> x.run());
            note(() -> x.run());
            noteCodes(3);
        }
    }

    private void search() {
        x.drop();
        note(() -> x.isCut() ? 1 : 0);
        for (int k = 0; k < 25; k++) {
            int state = k;
            if (note(() -> x.state(state))) {
                noteCodes(5);
                x.drop();
            }
            note(() -> x.cameBy(state));
        }
        for (String pattern : new String[] {"x0", "g(b,x0)", "g(x0,x0)"}) {
            put(pattern);
            for (int k = 0; k < 3; k++) {
                int place = k;
                note(() -> x.finds(place));
                note(() -> x.holds(place) ? 1 : 0);
            }
        }
    }

    private void strategies() {
        boolean isThere = true;
        for (int k = 0; k < 9 && isThere; k++) {
            put("g(a,b)");
            isThere = note(() -> x.run());
            noteCodes(4);
        }
        note(() -> x.many());
        for (int k = 0; k < 9; k++) {
            note(() -> x.idle());
        }
    }

    private void pairs() {
        note(() -> x.pairs());
        boolean isThere = true;
        for (int k = 0; k < 70 && isThere; k++) {
            int pair = k;
            isThere = note(() -> x.joins(pair));
        }
        for (int k = 0; k < 13; k++) {
            int equation = k;
            note(() -> x.descends(equation) ? 1 : 0);
        }
        note(() -> x.complete());
        for (int k = 0; k < 13; k++) {
            int equation = k;
            note(() -> x.copy(equation));
        }
        note(() -> x.equations());
    }
}
