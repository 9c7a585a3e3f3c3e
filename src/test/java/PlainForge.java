import java.util.ArrayList;
import java.util.Arrays;
import java.util.Collections;
import java.util.HashMap;
import java.util.LinkedHashMap;
import java.util.List;
import java.util.Map;
import java.util.TreeMap;
import java.util.TreeSet;

/** The document once more, as plainly as can be, with no regard to time or room: RuleForge is held against it. */
final class PlainForge {
    static final int NONE = -1, FAILED = -2, FREE = 0, PAIR = 1, ROW = 2, BAG = 3;

    /** A term could not be made, or reducing took too long. */
    static final class Failure extends Exception {
        private static final long serialVersionUID = 1;
    }

    /** A variable if its operator is NONE. */
    static final class T implements Comparable<T> {
        final int variable;
        final int operator;
        final List<T> arguments;

        T(int variable, int operator, List<T> arguments) {
            this.variable = variable;
            this.operator = operator;
            this.arguments = arguments;
        }

        boolean isVariable() {
            return operator == NONE;
        }

        int size() {
            int size = 1;
            for (T a : arguments) {
                size += a.size();
            }
            return size;
        }

        @Override
        public int compareTo(T o) {
            if (isVariable() || o.isVariable()) {
                return isVariable() && o.isVariable() ? Integer.compare(variable, o.variable) : isVariable() ? -1 : 1;
            }
            if (operator != o.operator) {
                return Integer.compare(operator, o.operator);
            }
            if (arguments.size() != o.arguments.size()) {
                return Integer.compare(arguments.size(), o.arguments.size());
            }
            for (int i = 0; i < arguments.size(); i++) {
                int c = arguments.get(i).compareTo(o.arguments.get(i));
                if (c != 0) {
                    return c;
                }
            }
            return 0;
        }

        @Override
        public boolean equals(Object o) {
            return o instanceof T && compareTo((T) o) == 0;
        }

        @Override
        public int hashCode() {
            int h = variable * 31 + operator;
            for (T a : arguments) {
                h = h * 37 + a.hashCode();
            }
            return h;
        }

        void places(List<T> into) {
            into.add(this);
            for (T a : arguments) {
                a.places(into);
            }
        }

        List<T> places() {
            List<T> all = new ArrayList<>();
            places(all);
            return all;
        }

        TreeSet<Integer> variables() {
            TreeSet<Integer> set = new TreeSet<>();
            for (T t : places()) {
                if (t.isVariable()) {
                    set.add(t.variable);
                }
            }
            return set;
        }
    }

    static final class Law {
        T left, right, one, other;
    }

    static final class Plan {
        String kind;
        int rule;
        T pattern;
        Plan first, second;

        int parts() {
            return 1 + (first == null ? 0 : first.parts()) + (second == null ? 0 : second.parts());
        }
    }

    int sorts;
    final boolean[][] under = new boolean[8][8];
    final int[] variableSort = new int[10];
    final List<int[]> operators = new ArrayList<>();
    final List<List<int[]>> declarations = new ArrayList<>();
    final List<int[]> weights = new ArrayList<>();
    final List<Integer> views = new ArrayList<>();
    final List<T> stack = new ArrayList<>();
    final T[] slots = new T[20];
    final List<Law> equationList = new ArrayList<>();
    final List<Law> ruleList = new ArrayList<>();
    final List<Plan> plans = new ArrayList<>();
    List<T> states = new ArrayList<>();
    List<int[]> cameFrom = new ArrayList<>();
    List<TreeSet<Integer>> ahead = new ArrayList<>();
    boolean cut;
    int steps;

    PlainForge() {
        for (int i = 0; i < 8; i++) {
            under[i][i] = true;
        }
    }

    // ---- terms

    T v(int number) {
        return new T(number, NONE, List.of());
    }

    int axioms(int operator) {
        return operators.get(operator)[1];
    }

    int identity(int operator) {
        return operators.get(operator)[2];
    }

    T put(int operator, List<T> given) throws Failure {
        List<T> parts = new ArrayList<>(given);
        if (axioms(operator) >= ROW) {
            parts.clear();
            for (T t : given) {
                if (t.operator == operator) {
                    parts.addAll(t.arguments);
                } else if (t.isVariable() || t.operator != identity(operator)) {
                    parts.add(t);
                }
            }
            if (parts.size() == 1) {
                return parts.get(0);
            }
            if (parts.isEmpty()) {
                return new T(NONE, identity(operator), List.of());
            }
            if (parts.size() > 5) {
                throw new Failure();
            }
        }
        if (axioms(operator) == PAIR || axioms(operator) == BAG) {
            Collections.sort(parts);
        }
        T made = new T(NONE, operator, parts);
        if (made.size() > 20) {
            throw new Failure();
        }
        return made;
    }

    T with(T t, Map<Integer, T> given) throws Failure {
        if (t.isVariable()) {
            return given.getOrDefault(t.variable, t);
        }
        List<T> parts = new ArrayList<>();
        for (T a : t.arguments) {
            parts.add(with(a, given));
        }
        return put(t.operator, parts);
    }

    boolean atOrBelow(int lower, int upper) {
        return lower != NONE && under[lower][upper];
    }

    int declared(int operator, int[] given) {
        for (int[] d : declarations.get(operator)) {
            boolean fits = true;
            for (int i = 0; i < given.length; i++) {
                fits &= atOrBelow(given[i], d[1 + i]);
            }
            boolean other = axioms(operator) == PAIR && atOrBelow(given[1], d[1]) && atOrBelow(given[0], d[2]);
            if (fits || other) {
                return d[0];
            }
        }
        return NONE;
    }

    int sort(T t) {
        if (t.isVariable()) {
            return variableSort[t.variable % 10];
        }
        int[] all = new int[t.arguments.size()];
        for (int i = 0; i < all.length; i++) {
            all[i] = sort(t.arguments.get(i));
        }
        if (axioms(t.operator) < ROW) {
            return declared(t.operator, all);
        }
        int sort = all[0];
        for (int i = 1; i < all.length; i++) {
            sort = declared(t.operator, new int[] {sort, all[i]});
        }
        return sort;
    }

    // ---- matches

    TreeSet<T> tried(T subject) {
        TreeSet<T> all = new TreeSet<>();
        try {
            for (T t : subject.places()) {
                all.add(t);
                if (t.isVariable() || axioms(t.operator) < ROW) {
                    continue;
                }
                int n = t.arguments.size();
                for (int mask = 1; mask < 1 << n; mask++) {
                    List<T> chosen = new ArrayList<>();
                    int low = n, high = -1;
                    for (int i = 0; i < n; i++) {
                        if ((mask >> i & 1) == 1) {
                            chosen.add(t.arguments.get(i));
                            low = Math.min(low, i);
                            high = i;
                        }
                    }
                    if (chosen.size() > 1 && (axioms(t.operator) == BAG || high - low + 1 == chosen.size())) {
                        all.add(put(t.operator, chosen));
                    }
                }
            }
        } catch (Failure e) {
            throw new IllegalArgumentException("a part can not be too large");
        }
        for (int[] o : operators) {
            if (o[2] != NONE) {
                all.add(new T(NONE, o[2], List.of()));
            }
        }
        return all;
    }

    List<TreeMap<Integer, T>> matchesOf(T pattern, T subject) {
        List<TreeMap<Integer, T>> found = new ArrayList<>();
        boolean isOther = subject.isVariable() || subject.operator != pattern.operator;
        if (!pattern.isVariable() && isOther && identity(pattern.operator) == NONE) {
            return found;
        }
        seek(pattern, subject, new ArrayList<>(pattern.variables()), new ArrayList<>(tried(subject)), new TreeMap<>(), found);
        return found;
    }

    private void seek(T pattern, T subject, List<Integer> open, List<T> all, TreeMap<Integer, T> given,
            List<TreeMap<Integer, T>> found) {
        // All of a term but perhaps its operator is in the subject then, so that much need not be tried.
        int least = 0;
        for (T t : given.values()) {
            least += t.size() - 1;
        }
        if (least > subject.size()) {
            return;
        }
        if (given.size() == open.size()) {
            try {
                if (with(pattern, given).equals(subject)) {
                    found.add(new TreeMap<>(given));
                }
            } catch (Failure e) {
                return;
            }
            return;
        }
        int variable = open.get(given.size());
        for (T t : all) {
            if (atOrBelow(sort(t), variableSort[variable])) {
                given.put(variable, t);
                seek(pattern, subject, open, all, given, found);
                given.remove(variable);
            }
        }
    }

    // ---- reducing

    void step() throws Failure {
        steps++;
        if (steps > 60) {
            throw new Failure();
        }
    }

    T reduced(T t, int depth) throws Failure {
        if (t.isVariable()) {
            return t;
        }
        List<T> parts = new ArrayList<>();
        for (T a : t.arguments) {
            parts.add(reduced(a, depth));
        }
        T whole = put(t.operator, parts);
        if (whole.isVariable()) {
            return whole;
        }
        for (Law law : equationList) {
            for (TreeMap<Integer, T> match : matchesOf(law.left, whole)) {
                if (conditionHolds(law, match, depth)) {
                    step();
                    return reduced(with(law.right, match), depth);
                }
            }
        }
        return whole;
    }

    boolean conditionHolds(Law law, Map<Integer, T> match, int depth) throws Failure {
        if (law.one == null) {
            return true;
        }
        step();
        if (depth + 1 > 3) {
            throw new Failure();
        }
        return reduced(with(law.one, match), depth + 1).equals(reduced(with(law.other, match), depth + 1));
    }

    T replaced(T t, int[] place, T by) throws Failure {
        if (place[0] == 0) {
            place[0] = -1;
            return by;
        }
        if (place[0] > 0) {
            place[0]--;
        }
        if (t.isVariable()) {
            return t;
        }
        List<T> parts = new ArrayList<>();
        for (T a : t.arguments) {
            parts.add(place[0] < 0 ? a : replaced(a, place, by));
        }
        return put(t.operator, parts);
    }

    // ---- searching

    int searchFrom(T t) {
        states = new ArrayList<>();
        cameFrom = new ArrayList<>();
        ahead = new ArrayList<>();
        cut = false;
        try {
            int all = 0;
            int used = 0;
            steps = 0;
            states.add(reduced(t, 0));
            all += steps;
            cameFrom.add(new int[2]);
            ahead.add(new TreeSet<>());
            for (int s = 0; s < states.size(); s++) {
                T from = states.get(s);
                for (int r = 0; r < ruleList.size(); r++) {
                    List<T> places = from.places();
                    for (int p = 0; p < places.size(); p++) {
                        for (TreeMap<Integer, T> match : matchesOf(ruleList.get(r).left, places.get(p))) {
                            if (used == 150 || all >= 200) {
                                cut = true;
                                return states.size();
                            }
                            used++;
                            T to = goneOn(from, ruleList.get(r), p, match);
                            all += taken;
                            if (to == null) {
                                continue;
                            }
                            if (!states.contains(to)) {
                                if (states.size() == 24) {
                                    cut = true;
                                    return 24;
                                }
                                states.add(to);
                                cameFrom.add(new int[] {s, r});
                                ahead.add(new TreeSet<>());
                            }
                            ahead.get(s).add(states.indexOf(to));
                        }
                    }
                }
            }
            return states.size();
        } catch (Failure e) {
            states = new ArrayList<>();
            cut = false;
            return FAILED;
        }
    }

    int taken;

    T goneOn(T from, Law rule, int place, Map<Integer, T> match) throws Failure {
        steps = 0;
        boolean may = conditionHolds(rule, match, 0);
        taken = steps;
        if (!may) {
            return null;
        }
        T whole = replaced(from, new int[] {place}, with(rule.right, match));
        steps = 0;
        T to = reduced(whole, 0);
        taken += steps;
        return to;
    }

    boolean surely(TreeSet<Integer> good, int state, List<Integer> path) {
        if (good.contains(state)) {
            return true;
        }
        if (path.contains(state) || ahead.get(state).isEmpty()) {
            return false;
        }
        List<Integer> longer = new ArrayList<>(path);
        longer.add(state);
        for (int next : ahead.get(state)) {
            if (!surely(good, next, longer)) {
                return false;
            }
        }
        return true;
    }

    TreeSet<Integer> good(T pattern) {
        TreeSet<Integer> set = new TreeSet<>();
        for (int s = 0; s < states.size(); s++) {
            if (!matchesOf(pattern, states.get(s)).isEmpty()) {
                set.add(s);
            }
        }
        return set;
    }

    // ---- strategies

    int uses;
    int usesSteps;

    T perform(Plan plan, T t) throws Failure {
        switch (plan.kind) {
            case "USE":
                return useOf(plan.rule, t);
            case "IDLE":
                return t;
            case "TEST":
                return matchesOf(plan.pattern, t).isEmpty() ? null : t;
            case "THEN":
                T between = perform(plan.first, t);
                return between == null ? null : perform(plan.second, between);
            case "ELSE":
                T made = perform(plan.first, t);
                return made != null ? made : perform(plan.second, t);
            default:
                T now = t;
                for (int rounds = 1;; rounds++) {
                    if (rounds > 30) {
                        throw new Failure();
                    }
                    T next = perform(plan.first, now);
                    if (next == null) {
                        return now;
                    }
                    now = next;
                }
        }
    }

    T useOf(int rule, T t) throws Failure {
        uses++;
        if (uses > 30) {
            throw new Failure();
        }
        int used = 0;
        List<T> places = t.places();
        for (int p = 0; p < places.size(); p++) {
            for (TreeMap<Integer, T> match : matchesOf(ruleList.get(rule).left, places.get(p))) {
                if (used == 150) {
                    return null;
                }
                if (usesSteps >= 200) {
                    throw new Failure();
                }
                used++;
                T to = goneOn(t, ruleList.get(rule), p, match);
                usesSteps += taken;
                if (to != null) {
                    return to;
                }
            }
        }
        return null;
    }

    // ---- pairs

    static final class Overlap {
        T one, other;
    }

    boolean isOpen(Law law) {
        for (T t : law.left.places()) {
            if (!t.isVariable() && axioms(t.operator) != FREE) {
                return false;
            }
        }
        return law.one == null;
    }

    List<Overlap> overlaps() {
        List<Overlap> all = new ArrayList<>();
        for (Law first : equationList) {
            for (Law second : equationList) {
                if (!isOpen(first) || !isOpen(second)) {
                    continue;
                }
                List<T> places = first.left.places();
                for (int p = first == second ? 1 : 0; p < places.size(); p++) {
                    if (places.get(p).isVariable()) {
                        continue;
                    }
                    try {
                        Map<Integer, T> raised = new HashMap<>();
                        for (int k = 0; k < 10; k++) {
                            raised.put(k, v(k + 10));
                        }
                        Map<Integer, T> bound = new LinkedHashMap<>();
                        if (!unify(places.get(p), with(second.left, raised), bound)) {
                            continue;
                        }
                        Map<Integer, T> solved = new HashMap<>();
                        for (int k = 0; k < 20; k++) {
                            solved.put(k, solve(v(k), bound, 0));
                        }
                        with(first.left, solved);
                        Overlap o = new Overlap();
                        o.one = with(first.right, solved);
                        T inner = with(with(second.right, raised), solved);
                        o.other = replaced(with(first.left, solved), new int[] {placeIn(first.left, p, solved)}, inner);
                        if (all.size() < 60) {
                            all.add(o);
                        }
                    } catch (Failure e) {
                        continue;
                    }
                }
            }
        }
        return all;
    }

    int placeIn(T t, int place, Map<Integer, T> given) {
        int at = 0;
        List<T> places = t.places();
        for (int i = 0; i < place; i++) {
            at += places.get(i).isVariable() ? given.get(places.get(i).variable).size() : 1;
        }
        return at;
    }

    T walk(T t, Map<Integer, T> bound) {
        T now = t;
        while (now.isVariable() && bound.containsKey(now.variable)) {
            now = bound.get(now.variable);
        }
        return now;
    }

    T solve(T t, Map<Integer, T> bound, int depth) throws Failure {
        T now = walk(t, bound);
        if (now.isVariable()) {
            return now;
        }
        if (depth > 20) {
            throw new Failure();
        }
        List<T> parts = new ArrayList<>();
        for (T a : now.arguments) {
            parts.add(solve(a, bound, depth + 1));
        }
        return put(now.operator, parts);
    }

    boolean occurs(int variable, T t, Map<Integer, T> bound) {
        T now = walk(t, bound);
        if (now.isVariable()) {
            return now.variable == variable;
        }
        for (T a : now.arguments) {
            if (occurs(variable, a, bound)) {
                return true;
            }
        }
        return false;
    }

    boolean unify(T one, T other, Map<Integer, T> bound) {
        T a = walk(one, bound);
        T b = walk(other, bound);
        if (a.isVariable() && b.isVariable()) {
            if (a.variable != b.variable) {
                bound.put(Math.max(a.variable, b.variable), v(Math.min(a.variable, b.variable)));
            }
            return true;
        }
        if (a.isVariable() || b.isVariable()) {
            T variable = a.isVariable() ? a : b;
            T term = a.isVariable() ? b : a;
            if (occurs(variable.variable, term, bound)) {
                return false;
            }
            bound.put(variable.variable, term);
            return true;
        }
        if (a.operator != b.operator) {
            return false;
        }
        for (int i = 0; i < a.arguments.size(); i++) {
            if (!unify(a.arguments.get(i), b.arguments.get(i), bound)) {
                return false;
            }
        }
        return true;
    }

    T[] forms(Overlap o) throws Failure {
        steps = 0;
        T one = reduced(o.one, 0);
        int before = steps;
        steps = 0;
        T other = reduced(o.other, 0);
        taken = before + steps;
        return new T[] {one, other};
    }

    /** For each variable how often, and the number behind them. */
    long[] value(T t) {
        long[] sum = new long[21];
        if (t.isVariable()) {
            sum[t.variable] = 1;
            return sum;
        }
        int[] w = weights.get(t.operator);
        if (axioms(t.operator) >= ROW) {
            sum = value(t.arguments.get(0));
            for (int i = 1; i < t.arguments.size(); i++) {
                long[] next = value(t.arguments.get(i));
                for (int k = 0; k < 21; k++) {
                    sum[k] = w[1] * sum[k] + w[2] * next[k];
                }
                sum[20] += w[0];
            }
            return sum;
        }
        sum[20] = w[0];
        for (int i = 0; i < t.arguments.size(); i++) {
            long[] next = value(t.arguments.get(i));
            for (int k = 0; k < 21; k++) {
                sum[k] += w[i + 1] * next[k];
            }
        }
        return sum;
    }

    boolean above(T one, T other) {
        long[] a = value(one);
        long[] b = value(other);
        for (int k = 0; k < 20; k++) {
            if (a[k] < b[k]) {
                return false;
            }
        }
        return a[20] > b[20];
    }

    // ---- the calls

    T top() {
        if (stack.isEmpty()) {
            throw new IllegalStateException();
        }
        return stack.get(stack.size() - 1);
    }

    T pop() {
        T t = top();
        stack.remove(stack.size() - 1);
        return t;
    }

    int push(T t) {
        if (stack.size() >= 10) {
            throw new IllegalStateException();
        }
        stack.add(t);
        return stack.size();
    }

    void needSort(int s) {
        if (s < 0 || s >= sorts) {
            throw new IndexOutOfBoundsException();
        }
    }

    void needOperator(int o) {
        if (o < 0 || o >= operators.size()) {
            throw new IndexOutOfBoundsException();
        }
    }

    void need(boolean right, RuntimeException e) {
        if (!right) {
            throw e;
        }
    }

    T pattern() {
        T t = top();
        need(t.variables().size() <= 3, new IllegalStateException());
        return t;
    }

    T patternBelow() {
        need(stack.size() >= 2, new IllegalStateException());
        T t = stack.get(stack.size() - 2);
        need(t.variables().size() <= 3, new IllegalStateException());
        return t;
    }

    int sort() {
        need(sorts < 8, new IllegalStateException());
        return sorts++;
    }

    boolean below(int lower, int upper) {
        needSort(lower);
        needSort(upper);
        need(!under[upper][lower], new IllegalStateException());
        boolean before = under[lower][upper];
        for (int a = 0; a < 8; a++) {
            for (int b = 0; b < 8; b++) {
                under[a][b] |= under[a][lower] && under[upper][b];
            }
        }
        return before;
    }

    int variable(int variable, int sort) {
        needSort(sort);
        need(variable >= 0 && variable < 10, new IllegalArgumentException());
        need(equationList.isEmpty() && ruleList.isEmpty(), new IllegalStateException());
        int before = variableSort[variable];
        variableSort[variable] = sort;
        return before;
    }

    int operator(int arity, int axioms, int identity) {
        if (identity != NONE) {
            needOperator(identity);
        }
        need(arity >= 0 && arity <= 3 && axioms >= 0 && axioms <= 3, new IllegalArgumentException());
        need(axioms == FREE || arity == 2, new IllegalArgumentException());
        need(identity == NONE || axioms >= ROW && operators.get(identity)[0] == 0, new IllegalArgumentException());
        need(operators.size() < 16, new IllegalStateException());
        operators.add(new int[] {arity, axioms, identity});
        declarations.add(new ArrayList<>());
        weights.add(new int[] {1, 1, 1, 1});
        views.add(views.size());
        return operators.size() - 1;
    }

    int declare(int operator, int result, int first, int second, int third) {
        needOperator(operator);
        needSort(result);
        int[] given = {first, second, third};
        for (int i = 0; i < operators.get(operator)[0]; i++) {
            needSort(given[i]);
        }
        need(declarations.get(operator).size() < 3, new IllegalStateException());
        need(equationList.isEmpty() && ruleList.isEmpty(), new IllegalStateException());
        declarations.get(operator).add(new int[] {result, first, second, third});
        return declarations.get(operator).size();
    }

    int term(int variable) {
        need(variable >= 0 && variable < 10, new IllegalArgumentException());
        return push(v(variable));
    }

    int apply(int operator) {
        needOperator(operator);
        int arity = operators.get(operator)[0];
        need(stack.size() >= arity && stack.size() - arity < 10, new IllegalStateException());
        List<T> last = stack.subList(stack.size() - arity, stack.size());
        T made;
        try {
            made = put(operator, last);
        } catch (Failure e) {
            throw new IllegalStateException();
        }
        last.clear();
        return push(made);
    }

    int keep(int slot) {
        need(slot >= 0 && slot < 20, new IllegalArgumentException());
        slots[slot] = pop();
        return stack.size();
    }

    int load(int slot) {
        need(slot >= 0 && slot < 20, new IllegalArgumentException());
        need(slots[slot] != null, new IllegalStateException());
        return push(slots[slot]);
    }

    int drop() {
        int n = stack.size();
        stack.clear();
        return n;
    }

    int sortOf() {
        return sort(top());
    }

    int code(int place) {
        List<T> places = top().places();
        need(place >= 0 && place < places.size(), new IndexOutOfBoundsException());
        T t = places.get(place);
        return t.isVariable() ? 1000 + t.variable : 10 * t.operator + t.arguments.size();
    }

    int matches() {
        return matchesOf(patternBelow(), top()).size();
    }

    int matchesAnew() {
        T pattern = patternBelow();
        return tried(top()).size() > 8 ? NONE : matchesOf(pattern, top()).size();
    }

    int match(int place, int variable) {
        T pattern = patternBelow();
        List<TreeMap<Integer, T>> all = matchesOf(pattern, top());
        need(place >= 0 && place < all.size() && pattern.variables().contains(variable), new IndexOutOfBoundsException());
        return push(all.get(place).get(variable));
    }

    int tell(boolean isRule, boolean hasCondition) {
        int n = hasCondition ? 4 : 2;
        need(stack.size() >= n, new IllegalStateException());
        List<T> last = stack.subList(stack.size() - n, stack.size());
        T left = last.get(0);
        need(!left.isVariable() && left.variables().size() <= 3, new IllegalStateException());
        for (T t : last) {
            need(left.variables().containsAll(t.variables()), new IllegalStateException());
        }
        List<Law> laws = isRule ? ruleList : equationList;
        need(laws.size() < (isRule ? 8 : 12), new IllegalStateException());
        Law law = new Law();
        law.left = left;
        law.right = last.get(1);
        law.one = hasCondition ? last.get(2) : null;
        law.other = hasCondition ? last.get(3) : null;
        laws.add(law);
        last.clear();
        return laws.size() - 1;
    }

    int equations() {
        return equationList.size();
    }

    int reduce() {
        T t = top();
        steps = 0;
        try {
            T made = reduced(t, 0);
            pop();
            push(made);
            return steps;
        } catch (Failure e) {
            return FAILED;
        }
    }

    int fitting() {
        T t = top();
        int set = 0;
        for (int k = 0; k < equationList.size(); k++) {
            T left = equationList.get(k).left;
            boolean can = left.operator == t.operator || identity(left.operator) != NONE;
            if (can && axioms(left.operator) == FREE) {
                for (int i = 0; i < left.arguments.size(); i++) {
                    T a = left.arguments.get(i);
                    can &= a.isVariable() || identity(a.operator) != NONE || a.operator == t.arguments.get(i).operator;
                }
            }
            set |= can ? 1 << k : 0;
        }
        return set;
    }

    int matching() {
        T t = top();
        int set = 0;
        for (int k = 0; k < equationList.size(); k++) {
            set |= matchesOf(equationList.get(k).left, t).isEmpty() ? 0 : 1 << k;
        }
        return set;
    }

    int search() {
        return searchFrom(pop());
    }

    boolean isCut() {
        return cut;
    }

    int state(int state) {
        need(state >= 0 && state < states.size(), new IndexOutOfBoundsException());
        return push(states.get(state));
    }

    int cameBy(int state) {
        need(state > 0 && state < states.size(), new IndexOutOfBoundsException());
        return 10 * cameFrom.get(state)[0] + cameFrom.get(state)[1];
    }

    int finds(int place) {
        T pattern = pattern();
        need(place >= 0, new IndexOutOfBoundsException());
        List<Integer> all = new ArrayList<>(good(pattern));
        return place < all.size() ? all.get(place) : NONE;
    }

    boolean holds(int claim) {
        need(claim >= 0 && claim <= 2, new IllegalArgumentException());
        T pattern = pattern();
        need(!states.isEmpty() && !cut, new IllegalStateException());
        TreeSet<Integer> good = good(pattern);
        return claim == 0 ? good.size() == states.size() : claim == 1 ? !good.isEmpty() : surely(good, 0, List.of());
    }

    int pushPlan(String kind, int rule, T pattern) {
        need(plans.size() < 8, new IllegalStateException());
        Plan plan = new Plan();
        plan.kind = kind;
        plan.rule = rule;
        plan.pattern = pattern;
        plans.add(plan);
        return plans.size();
    }

    int use(int rule) {
        need(rule >= 0 && rule < ruleList.size(), new IndexOutOfBoundsException());
        return pushPlan("USE", rule, null);
    }

    int idle() {
        return pushPlan("IDLE", 0, null);
    }

    int test() {
        int count = pushPlan("TEST", 0, pattern());
        pop();
        return count;
    }

    int both(boolean isThen) {
        int n = plans.size();
        need(n >= 2, new IllegalStateException());
        Plan plan = new Plan();
        plan.kind = isThen ? "THEN" : "ELSE";
        plan.first = plans.get(n - 2);
        plan.second = plans.get(n - 1);
        need(plan.parts() <= 30, new IllegalStateException());
        plans.subList(n - 2, n).clear();
        plans.add(plan);
        return plans.size();
    }

    int many() {
        int n = plans.size();
        need(n >= 1, new IllegalStateException());
        Plan plan = new Plan();
        plan.kind = "MANY";
        plan.first = plans.get(n - 1);
        need(plan.parts() <= 30, new IllegalStateException());
        plans.set(n - 1, plan);
        return n;
    }

    int run() {
        need(!plans.isEmpty() && !stack.isEmpty(), new IllegalStateException());
        Plan plan = plans.remove(plans.size() - 1);
        uses = 0;
        usesSteps = 0;
        try {
            steps = 0;
            T made = perform(plan, reduced(top(), 0));
            if (made == null) {
                return NONE;
            }
            pop();
            push(made);
            return uses;
        } catch (Failure e) {
            return FAILED;
        }
    }

    int pairs() {
        return overlaps().size();
    }

    int joins(int pair) {
        List<Overlap> all = overlaps();
        need(pair >= 0 && pair < all.size(), new IndexOutOfBoundsException());
        try {
            T[] both = forms(all.get(pair));
            return both[0].equals(both[1]) ? 1 : 0;
        } catch (Failure e) {
            return FAILED;
        }
    }

    int weight(int operator, int place, int weight) {
        needOperator(operator);
        need(place >= 0 && place <= operators.get(operator)[0], new IndexOutOfBoundsException());
        need(weight >= (place == 0 ? 0 : 1) && weight <= (place == 0 ? 9 : 3), new IllegalArgumentException());
        int before = weights.get(operator)[place];
        weights.get(operator)[place] = weight;
        return before;
    }

    boolean descends(int equation) {
        need(equation >= 0 && equation < equationList.size(), new IndexOutOfBoundsException());
        return above(equationList.get(equation).left, equationList.get(equation).right);
    }

    int complete() {
        int added = 0;
        int all = 0;
        while (true) {
            T[] apart = null;
            for (Overlap o : overlaps()) {
                if (all >= 300) {
                    return added;
                }
                try {
                    T[] both = forms(o);
                    all += taken;
                    if (!both[0].equals(both[1])) {
                        apart = both;
                        break;
                    }
                } catch (Failure e) {
                    return added;
                }
            }
            if (apart == null || equationList.size() == 12) {
                return added;
            }
            boolean isFirst = above(apart[0], apart[1]);
            if (!isFirst && !above(apart[1], apart[0])) {
                return added;
            }
            Law law = renamed(isFirst ? apart[0] : apart[1], isFirst ? apart[1] : apart[0]);
            if (law == null) {
                return added;
            }
            equationList.add(law);
            added++;
        }
    }

    Law renamed(T left, T right) {
        if (left.isVariable() || left.variables().size() > 3) {
            return null;
        }
        Map<Integer, T> names = new HashMap<>();
        boolean[] gone = new boolean[10];
        for (T t : left.places()) {
            if (t.isVariable() && !names.containsKey(t.variable)) {
                for (int k = 0; k < 10; k++) {
                    if (!gone[k] && variableSort[k] == variableSort[t.variable % 10] && !names.containsKey(t.variable)) {
                        gone[k] = true;
                        names.put(t.variable, v(k));
                    }
                }
                if (!names.containsKey(t.variable)) {
                    return null;
                }
            }
        }
        Law law = new Law();
        try {
            law.left = with(left, names);
            law.right = with(right, names);
        } catch (Failure e) {
            return null;
        }
        return law;
    }

    int view(int operator, int other) {
        needOperator(operator);
        needOperator(other);
        int[] one = Arrays.copyOf(operators.get(operator), 2);
        need(Arrays.equals(one, Arrays.copyOf(operators.get(other), 2)), new IllegalArgumentException());
        return views.set(operator, other);
    }

    T viewed(T t) throws Failure {
        if (t.isVariable()) {
            return t;
        }
        List<T> parts = new ArrayList<>();
        for (T a : t.arguments) {
            parts.add(viewed(a));
        }
        return put(views.get(t.operator), parts);
    }

    int copy(int equation) {
        need(equation >= 0 && equation < equationList.size(), new IndexOutOfBoundsException());
        need(equationList.size() < 12, new IllegalStateException());
        Law from = equationList.get(equation);
        Law law = new Law();
        try {
            law.left = viewed(from.left);
            law.right = viewed(from.right);
            law.one = from.one == null ? null : viewed(from.one);
            law.other = from.other == null ? null : viewed(from.other);
        } catch (Failure e) {
            throw new IllegalStateException();
        }
        need(!law.left.isVariable(), new IllegalStateException());
        equationList.add(law);
        return equationList.size() - 1;
    }
}
