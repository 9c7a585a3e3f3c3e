import java.util.Arrays;

/**
 * An engine of rules for terms modulo axioms. Terms, lists of matches and all that a call needs on
 * its way lie in one row of numbers that is made once, so that calls make no objects.
 */
public final class RuleForge {
    public static final int NONE = -1;
    public static final int FAILED = -2;
    public static final int FREE = 0, PAIR = 1, ROW = 2, BAG = 3;
    public static final int ALWAYS = 0, POSSIBLE = 1, SURE = 2;

    private static final int MOST_SORTS = 8;
    private static final int MOST_OPERATORS = 16;
    private static final int MOST_DECLARATIONS = 3;
    private static final int MOST_ARITY = 3;
    private static final int VARIABLES = 10;
    /** With those of the second equation of a critical pair, which count as 10 more. */
    private static final int ALL_VARIABLES = 20;
    private static final int MOST_SIZE = 20;
    private static final int MOST_ARGUMENTS = 5;
    private static final int MOST_PATTERN_VARIABLES = 3;
    private static final int MOST_STACKED = 10;
    private static final int SLOTS = 20;
    private static final int MOST_TRIED = 8;
    private static final int MOST_EQUATIONS = 12;
    private static final int MOST_RULES = 8;
    private static final int MOST_LAWS = MOST_EQUATIONS + MOST_RULES;
    private static final int MOST_STEPS = 60;
    private static final int MOST_DEPTH = 3;
    private static final int MOST_STATES = 24;
    private static final int MOST_MATCHES = 150;
    private static final int STEPS_IN_ALL = 200;
    private static final int MOST_STRATEGIES = 8;
    private static final int MOST_PARTS = 30;
    private static final int MOST_USES = 30;
    private static final int MOST_ROUNDS = 30;
    private static final int MOST_PAIRS = 60;
    private static final int STEPS_OF_COMPLETION = 300;
    private static final int MOST_WEIGHT = 9;
    private static final int MOST_ARGUMENT_WEIGHT = 3;

    /** The parts of an equation or a rule; a condition has two. */
    private static final int LEFT = 0, RIGHT = 1, CONDITION = 2, ALL_PARTS = 4;

    /**
     * A term is a row of codes, one for each of its places. A variable's code is its number. Behind
     * these an operator has 8 codes, one for each number of arguments: so the order of terms is that
     * of their rows.
     */
    private static final int CODES = 8;
    private static final int BEFORE_OPERATORS = 4;
    private static final int FIRST_CODE = BEFORE_OPERATORS * CODES;

    private static final int STACK_AT = ALL_VARIABLES;
    private static final int SLOTS_AT = STACK_AT + MOST_STACKED * MOST_SIZE;
    private static final int LAWS_AT = SLOTS_AT + SLOTS * MOST_SIZE;
    private static final int STATES_AT = LAWS_AT + MOST_LAWS * ALL_PARTS * MOST_SIZE;
    private static final int TESTS_AT = STATES_AT + MOST_STATES * MOST_SIZE;
    private static final int WORK_AT = TESTS_AT + MOST_STRATEGIES * MOST_PARTS * MOST_SIZE;
    /** What 60 steps leave open, and the lists of matches of four conditions, take half of it. */
    private static final int CELLS = WORK_AT + 20000;
    /** Behind this no term begins, so that there is room for its end. */
    private static final int FULL = CELLS - 2 * MOST_SIZE;
    private static final int MOST_WAITING = (MOST_STEPS + 4) * MOST_SIZE;

    private final Signature signature;
    private final Terms terms;
    private final Laws laws;
    private final Matcher matcher;
    private final Reducer reducer;
    private final Explorer explorer;
    private final Plans plans;
    private final CriticalPairs criticalPairs;
    private int stacked;
    /** Bit k: a term was kept in the slot k. */
    private int kept;

    public RuleForge() {
        signature = new Signature();
        terms = new Terms(signature);
        laws = new Laws(terms);
        matcher = new Matcher(terms);
        reducer = new Reducer(laws, matcher);
        Walker walker = new Walker(reducer);
        explorer = new Explorer(walker);
        plans = new Plans(walker);
        criticalPairs = new CriticalPairs(reducer);
    }

    // ---- sorts and operators

    public int sort() throws IllegalStateException {
        if (signature.sorts >= MOST_SORTS) {
            throw new IllegalStateException("there are 8 sorts");
        }
        signature.sorts++;
        return signature.sorts - 1;
    }

    public boolean below(int lower, int upper) throws IndexOutOfBoundsException, IllegalStateException {
        if (!signature.hasSort(lower) || !signature.hasSort(upper)) {
            throw new IndexOutOfBoundsException("there is no such sort");
        }
        if (signature.reaches(upper, lower)) {
            throw new IllegalStateException("it would be below itself");
        }
        boolean already = signature.reaches(lower, upper);
        signature.putBelow(lower, upper);
        return already;
    }

    public int variable(int variable, int sort)
            throws IndexOutOfBoundsException, IllegalArgumentException, IllegalStateException {
        if (!signature.hasSort(sort)) {
            throw new IndexOutOfBoundsException("there is no such sort");
        }
        if (!isVariableNumber(variable)) {
            throw new IllegalArgumentException("there is no such variable");
        }
        if (laws.areTold()) {
            throw new IllegalStateException("there are equations or rules");
        }
        int before = signature.variableSort[variable];
        signature.variableSort[variable] = sort;
        return before;
    }

    public int operator(int arity, int axioms, int identity)
            throws IndexOutOfBoundsException, IllegalArgumentException, IllegalStateException {
        if (identity != NONE && !signature.hasOperator(identity)) {
            throw new IndexOutOfBoundsException("there is no such identity");
        }
        if (arity < 0 || arity > MOST_ARITY || axioms < FREE || axioms > BAG) {
            throw new IllegalArgumentException("arity or axioms are out of range");
        }
        if (axioms != FREE && arity != 2) {
            throw new IllegalArgumentException("axioms go with the arity 2 only");
        }
        if (identity != NONE && (axioms < ROW || signature.arity[identity] != 0)) {
            throw new IllegalArgumentException("this can not be its identity");
        }
        if (signature.operators >= MOST_OPERATORS) {
            throw new IllegalStateException("there are 16 operators");
        }
        return signature.addOperator(arity, axioms, identity);
    }

    public int declare(int operator, int result, int first, int second, int third)
            throws IndexOutOfBoundsException, IllegalStateException {
        if (!signature.hasOperator(operator) || !signature.hasSort(result)) {
            throw new IndexOutOfBoundsException("there is no such operator or sort");
        }
        int arity = signature.arity[operator];
        if (arity > 0 && !signature.hasSort(first) || arity > 1 && !signature.hasSort(second)
                || arity > 2 && !signature.hasSort(third)) {
            throw new IndexOutOfBoundsException("there is no such sort");
        }
        if (signature.declarations[operator] >= MOST_DECLARATIONS || laws.areTold()) {
            throw new IllegalStateException("it has 3 declarations, or there are equations or rules");
        }
        return signature.addDeclaration(operator, result, first, second, third);
    }

    // ---- terms on a stack, of which the last one is the top

    public int term(int variable) throws IllegalArgumentException, IllegalStateException {
        if (!isVariableNumber(variable)) {
            throw new IllegalArgumentException("there is no such variable");
        }
        if (stacked >= MOST_STACKED) {
            throw new IllegalStateException("there are 10 terms");
        }
        return push(variable);
    }

    public int apply(int operator) throws IndexOutOfBoundsException, IllegalStateException {
        if (!signature.hasOperator(operator)) {
            throw new IndexOutOfBoundsException("there is no such operator");
        }
        int arity = signature.arity[operator];
        if (stacked < arity || stacked - arity >= MOST_STACKED) {
            throw new IllegalStateException("there are too few terms, or too many");
        }
        terms.startAnew();
        for (int i = stacked - arity; i < stacked; i++) {
            terms.await(stackAt(i));
        }
        int made = terms.putOn(operator, 0);
        if (made < 0) {
            throw new IllegalStateException("the term would be too large");
        }
        stacked -= arity;
        return push(made);
    }

    public int keep(int slot) throws IllegalArgumentException, IllegalStateException {
        if (slot < 0 || slot >= SLOTS) {
            throw new IllegalArgumentException("there is no such slot");
        }
        if (stacked == 0) {
            throw new IllegalStateException("there are no terms");
        }
        stacked--;
        terms.store(stackAt(stacked), SLOTS_AT + slot * MOST_SIZE);
        kept |= 1 << slot;
        return stacked;
    }

    public int load(int slot) throws IllegalArgumentException, IllegalStateException {
        if (slot < 0 || slot >= SLOTS) {
            throw new IllegalArgumentException("there is no such slot");
        }
        if ((kept >> slot & 1) == 0 || stacked >= MOST_STACKED) {
            throw new IllegalStateException("nothing was kept there, or there are 10 terms");
        }
        return push(SLOTS_AT + slot * MOST_SIZE);
    }

    public int drop() {
        int before = stacked;
        stacked = 0;
        return before;
    }

    public int sortOf() throws IllegalStateException {
        if (stacked == 0) {
            throw new IllegalStateException("there is no top");
        }
        return terms.sortAt(topAt());
    }

    public int code(int place) throws IndexOutOfBoundsException, IllegalStateException {
        if (stacked == 0) {
            throw new IllegalStateException("there is no top");
        }
        int top = topAt();
        if (place < 0 || place >= terms.end(top) - top) {
            throw new IndexOutOfBoundsException("there is no such place");
        }
        int code = terms.cells[top + place];
        return code < FIRST_CODE ? 1000 + code : 10 * operatorIn(code) + code % CODES;
    }

    // ---- matches

    public int matches() throws IllegalStateException {
        if (!hasPatternAndSubject()) {
            throw new IllegalStateException("there are not two terms, or too many variables");
        }
        terms.startAnew();
        return matcher.list(stackAt(stacked - 2), topAt());
    }

    public int matchesAnew() throws IllegalStateException {
        if (!hasPatternAndSubject()) {
            throw new IllegalStateException("there are not two terms, or too many variables");
        }
        terms.startAnew();
        return matcher.countByTrying(stackAt(stacked - 2), topAt());
    }

    public int match(int place, int variable) throws IndexOutOfBoundsException, IllegalStateException {
        if (!hasPatternAndSubject()) {
            throw new IllegalStateException("there are not two terms, or too many variables");
        }
        terms.startAnew();
        int pattern = stackAt(stacked - 2);
        int count = matcher.list(pattern, topAt());
        if (place < 0 || place >= count || !isVariableNumber(variable)
                || (terms.variablesAt(pattern) >> variable & 1) == 0) {
            throw new IndexOutOfBoundsException("there is no such match or variable");
        }
        if (stacked >= MOST_STACKED) {
            throw new IllegalStateException("there are 10 terms");
        }
        matcher.giveMatch(pattern, matcher.listAt + place, matcher.rankedAt);
        return push(terms.given[variable]);
    }

    // ---- equations, rules, reducing

    public int tell(boolean isRule, boolean hasCondition) throws IllegalStateException {
        int count = hasCondition ? ALL_PARTS : CONDITION;
        if (stacked < count) {
            throw new IllegalStateException("there are not so many terms");
        }
        int from = stacked - count;
        if (!terms.canBeLeft(stackAt(from))) {
            throw new IllegalStateException("the left side is a variable, or has too many");
        }
        int unknown = 0;
        for (int i = 1; i < count; i++) {
            unknown |= terms.variablesAt(stackAt(from + i)) & ~terms.variablesAt(stackAt(from));
        }
        if (unknown != 0) {
            throw new IllegalStateException("a variable is not in the left side");
        }
        if (isRule ? laws.rules >= MOST_RULES : laws.equations >= MOST_EQUATIONS) {
            throw new IllegalStateException("there are 12 equations, or 8 rules");
        }
        int law = isRule ? MOST_EQUATIONS + laws.rules : laws.equations;
        for (int i = 0; i < count; i++) {
            terms.store(stackAt(from + i), laws.partAt(law, i));
        }
        stacked = from;
        return laws.add(isRule, hasCondition);
    }

    public int equations() {
        return laws.equations;
    }

    public int reduce() throws IllegalStateException {
        if (stacked == 0) {
            throw new IllegalStateException("there is no top");
        }
        terms.startAnew();
        reducer.steps = 0;
        int made = reducer.normalForm(topAt(), 0);
        if (made < 0) {
            return FAILED;
        }
        terms.store(made, topAt());
        return reducer.steps;
    }

    public int fitting() throws IllegalStateException {
        if (stacked == 0) {
            throw new IllegalStateException("there is no top");
        }
        int set = 0;
        for (int k = 0; k < laws.equations; k++) {
            set |= laws.canFit(k, topAt()) ? 1 << k : 0;
        }
        return set;
    }

    public int matching() throws IllegalStateException {
        if (stacked == 0) {
            throw new IllegalStateException("there is no top");
        }
        int set = 0;
        for (int k = 0; k < laws.equations; k++) {
            terms.startAnew();
            set |= matcher.list(laws.partAt(k, LEFT), topAt()) > 0 ? 1 << k : 0;
        }
        return set;
    }

    // ---- searches and claims

    public int search() throws IllegalStateException {
        if (stacked == 0) {
            throw new IllegalStateException("there is no top");
        }
        terms.startAnew();
        stacked--;
        return explorer.explore(stackAt(stacked));
    }

    public boolean isCut() {
        return explorer.cut;
    }

    public int state(int state) throws IndexOutOfBoundsException, IllegalStateException {
        if (state < 0 || state >= explorer.states) {
            throw new IndexOutOfBoundsException("there is no such state");
        }
        if (stacked >= MOST_STACKED) {
            throw new IllegalStateException("there are 10 terms");
        }
        return push(STATES_AT + state * MOST_SIZE);
    }

    public int cameBy(int state) throws IndexOutOfBoundsException {
        if (state <= 0 || state >= explorer.states) {
            throw new IndexOutOfBoundsException("there is no such state, or it is the first one");
        }
        return 10 * explorer.from[state] + explorer.by[state];
    }

    public int finds(int place) throws IndexOutOfBoundsException, IllegalStateException {
        if (!hasPattern()) {
            throw new IllegalStateException("there is no top, or it has too many variables");
        }
        if (place < 0) {
            throw new IndexOutOfBoundsException("there is no such place");
        }
        terms.startAnew();
        int found = explorer.statesWith(topAt());
        int before = 0;
        for (int s = 0; s < explorer.states; s++) {
            if ((found >> s & 1) == 1) {
                if (before == place) {
                    return s;
                }
                before++;
            }
        }
        return NONE;
    }

    public boolean holds(int claim) throws IllegalArgumentException, IllegalStateException {
        if (claim < ALWAYS || claim > SURE) {
            throw new IllegalArgumentException("there is no such claim");
        }
        if (!hasPattern() || explorer.states == 0 || explorer.cut) {
            throw new IllegalStateException("there is no pattern, or no search that is not cut");
        }
        terms.startAnew();
        int found = explorer.statesWith(topAt());
        if (claim == POSSIBLE) {
            return found != 0;
        }
        if (claim == ALWAYS) {
            return found == (1 << explorer.states) - 1;
        }
        return (explorer.surelyComeTo(found) & 1) == 1;
    }

    // ---- strategies

    public int use(int rule) throws IndexOutOfBoundsException, IllegalStateException {
        if (rule < 0 || rule >= laws.rules) {
            throw new IndexOutOfBoundsException("there is no such rule");
        }
        if (plans.count >= MOST_STRATEGIES) {
            throw new IllegalStateException("there are 8 strategies");
        }
        return plans.addOne(Plans.USE, rule);
    }

    public int idle() throws IllegalStateException {
        if (plans.count >= MOST_STRATEGIES) {
            throw new IllegalStateException("there are 8 strategies");
        }
        return plans.addOne(Plans.IDLE, 0);
    }

    public int test() throws IllegalStateException {
        if (!hasPattern()) {
            throw new IllegalStateException("there is no top, or it has too many variables");
        }
        if (plans.count >= MOST_STRATEGIES) {
            throw new IllegalStateException("there are 8 strategies");
        }
        stacked--;
        terms.store(stackAt(stacked), plans.nextTestAt());
        return plans.addOne(Plans.TEST, 0);
    }

    public int both(boolean isThen) throws IllegalStateException {
        if (plans.count < 2 || plans.partsOfLastTwo() >= MOST_PARTS) {
            throw new IllegalStateException("there are not two strategies, or too many parts");
        }
        return plans.joinLastTwo(isThen ? Plans.THEN : Plans.ELSE);
    }

    public int many() throws IllegalStateException {
        if (plans.count < 1 || plans.partsOfLast() >= MOST_PARTS) {
            throw new IllegalStateException("there is no strategy, or it has too many parts");
        }
        return plans.repeatLast();
    }

    public int run() throws IllegalStateException {
        if (plans.count < 1 || stacked == 0) {
            throw new IllegalStateException("there is no strategy, or no top");
        }
        terms.startAnew();
        int root = plans.takeLast();
        reducer.steps = 0;
        int start = reducer.normalForm(topAt(), 0);
        if (start < 0) {
            return FAILED;
        }
        int made = plans.perform(root, start);
        if (made < 0) {
            return made;
        }
        terms.store(made, topAt());
        return plans.uses;
    }

    // ---- pairs, weights, completion, copies

    public int pairs() {
        terms.startAnew();
        criticalPairs.bringUpToDate();
        return criticalPairs.count;
    }

    public int joins(int pair) throws IndexOutOfBoundsException {
        terms.startAnew();
        criticalPairs.bringUpToDate();
        if (pair < 0 || pair >= criticalPairs.count) {
            throw new IndexOutOfBoundsException("there is no such pair");
        }
        return criticalPairs.compare(pair);
    }

    public int weight(int operator, int place, int weight)
            throws IndexOutOfBoundsException, IllegalArgumentException {
        if (!signature.hasOperator(operator) || place < 0 || place > signature.arity[operator]) {
            throw new IndexOutOfBoundsException("there is no such operator or place");
        }
        if (place == 0 ? weight < 0 || weight > MOST_WEIGHT : weight < 1 || weight > MOST_ARGUMENT_WEIGHT) {
            throw new IllegalArgumentException("the weight is out of its range");
        }
        int at = operator * (MOST_ARITY + 1) + place;
        int before = signature.weights[at];
        signature.weights[at] = weight;
        return before;
    }

    public boolean descends(int equation) throws IndexOutOfBoundsException {
        if (equation < 0 || equation >= laws.equations) {
            throw new IndexOutOfBoundsException("there is no such equation");
        }
        criticalPairs.weigh(laws.partAt(equation, LEFT), laws.partAt(equation, RIGHT));
        return criticalPairs.isAbove(1);
    }

    public int complete() {
        int added = 0;
        boolean isOpen = true;
        criticalPairs.taken = 0;
        for (int round = 0; round <= MOST_EQUATIONS && isOpen; round++) {
            terms.startAnew();
            criticalPairs.bringUpToDate();
            int joined = 1;
            for (int k = 0; k < criticalPairs.count && joined == 1; k++) {
                terms.startAnew();
                joined = criticalPairs.taken >= STEPS_OF_COMPLETION ? FAILED : criticalPairs.compare(k);
            }
            isOpen = joined == 0 && laws.equations < MOST_EQUATIONS && criticalPairs.becomesEquation();
            added += isOpen ? 1 : 0;
        }
        return added;
    }

    public int view(int operator, int other) throws IndexOutOfBoundsException, IllegalArgumentException {
        if (!signature.hasOperator(operator) || !signature.hasOperator(other)) {
            throw new IndexOutOfBoundsException("there is no such operator");
        }
        if (signature.arity[operator] != signature.arity[other]
                || signature.axioms[operator] != signature.axioms[other]) {
            throw new IllegalArgumentException("they have not the same arity and axioms");
        }
        int before = signature.views[operator];
        signature.views[operator] = other;
        return before;
    }

    public int copy(int equation) throws IndexOutOfBoundsException, IllegalStateException {
        if (equation < 0 || equation >= laws.equations) {
            throw new IndexOutOfBoundsException("there is no such equation");
        }
        if (laws.equations >= MOST_EQUATIONS) {
            throw new IllegalStateException("there are 12 equations");
        }
        if (!copyParts(equation, laws.equations)) {
            throw new IllegalStateException("the copy can not be an equation");
        }
        return laws.add(false, laws.hasCondition[equation]);
    }

    // ---- what the calls share

    /** What it writes does not count before the new equation does. */
    private boolean copyParts(int equation, int law) {
        int count = laws.hasCondition[equation] ? ALL_PARTS : CONDITION;
        int known = 0;
        for (int i = 0; i < count; i++) {
            terms.startAnew();
            terms.isViewed = true;
            int made = terms.rebuild(laws.partAt(equation, i));
            if (made < 0 || i == LEFT && terms.cells[made] < FIRST_CODE) {
                return false;
            }
            known = i == LEFT ? terms.variablesAt(made) : known;
            if ((terms.variablesAt(made) & ~known) != 0) {
                return false;
            }
            terms.store(made, laws.partAt(law, i));
        }
        return true;
    }

    private int push(int at) {
        terms.store(at, stackAt(stacked));
        stacked++;
        return stacked;
    }

    private int topAt() {
        return stackAt(stacked - 1);
    }

    private boolean hasPattern() {
        return stacked > 0 && terms.canBePattern(topAt());
    }

    private boolean hasPatternAndSubject() {
        return stacked > 1 && terms.canBePattern(stackAt(stacked - 2));
    }

    private static int stackAt(int place) {
        return STACK_AT + place * MOST_SIZE;
    }

    private static boolean isVariableNumber(int variable) {
        return variable >= 0 && variable < VARIABLES;
    }

    /** Below 0 for a variable. */
    private static int operatorIn(int code) {
        return code / CODES - BEFORE_OPERATORS;
    }

    /** The sorts, the operators, and what is told about them. */
    private static final class Signature {
        int sorts;
        int operators;
        /** Bit k of the one behind a sort: k is at or above it; of the first one: of no sort none is. */
        final int[] reached = new int[MOST_SORTS + 1];
        final int[] variableSort = new int[VARIABLES];
        final int[] arity = new int[MOST_OPERATORS];
        final int[] axioms = new int[MOST_OPERATORS];
        final int[] identity = new int[MOST_OPERATORS];
        final int[] declarations = new int[MOST_OPERATORS];
        /** For each declaration its result, and the sorts of the arguments. */
        final int[] declared = new int[MOST_OPERATORS * MOST_DECLARATIONS * (MOST_ARITY + 1)];
        final int[] weights = new int[MOST_OPERATORS * (MOST_ARITY + 1)];
        final int[] views = new int[MOST_OPERATORS];

        Signature() {
            for (int s = 0; s < MOST_SORTS; s++) {
                reached[s + 1] = 1 << s;
            }
            Arrays.fill(weights, 1);
        }

        boolean hasSort(int sort) {
            return sort >= 0 && sort < sorts;
        }

        boolean hasOperator(int operator) {
            return operator >= 0 && operator < operators;
        }

        /** Also for NONE as the lower one, which reaches nothing. */
        boolean reaches(int lower, int upper) {
            return (reached[lower + 1] >> upper & 1) == 1;
        }

        void putBelow(int lower, int upper) {
            for (int s = 0; s < sorts; s++) {
                if (reaches(s, lower)) {
                    reached[s + 1] |= reached[upper + 1];
                }
            }
        }

        int addOperator(int itsArity, int itsAxioms, int itsIdentity) {
            int operator = operators;
            arity[operator] = itsArity;
            axioms[operator] = itsAxioms;
            identity[operator] = itsIdentity;
            views[operator] = operator;
            operators++;
            return operator;
        }

        int addDeclaration(int operator, int result, int first, int second, int third) {
            int at = (operator * MOST_DECLARATIONS + declarations[operator]) * (MOST_ARITY + 1);
            declared[at] = result;
            declared[at + 1] = first;
            declared[at + 2] = second;
            declared[at + 3] = third;
            declarations[operator]++;
            return declarations[operator];
        }

        /** The result of the first declaration that fits the sorts, each of which may be NONE. */
        int resultOf(int operator, int first, int second, int third) {
            int count = arity[operator];
            for (int d = 0; d < declarations[operator]; d++) {
                int at = (operator * MOST_DECLARATIONS + d) * (MOST_ARITY + 1);
                int one = declared[at + 1];
                int two = declared[at + 2];
                boolean fits = (count < 1 || (reached[first + 1] >> one & 1) == 1)
                        && (count < 2 || (reached[second + 1] >> two & 1) == 1)
                        && (count < 3 || (reached[third + 1] >> declared[at + 3] & 1) == 1);
                boolean fitsSwapped = axioms[operator] == PAIR
                        && (reached[second + 1] >> one & reached[first + 1] >> two & 1) == 1;
                if (fits || fitsSwapped) {
                    return declared[at];
                }
            }
            return NONE;
        }
    }

    /** The row of numbers in which all terms lie; a term is told by the place where it begins. */
    private static final class Terms {
        final Signature signature;
        final int[] cells = new int[CELLS];
        /** What lies from here on is free. */
        int top = WORK_AT;
        /** The arguments that wait for their operators. */
        final int[] waiting = new int[MOST_WAITING];
        int awaited;
        /** The arguments of the term that is made, and their sizes. */
        private final int[] spread = new int[MOST_ARGUMENTS];
        private final int[] spreadSize = new int[MOST_ARGUMENTS];
        /** What rebuild puts in place of each variable, or NONE. */
        final int[] given = new int[ALL_VARIABLES];
        /** The place that rebuild fills, or NONE, and with what. */
        int hole = NONE;
        int filling = NONE;
        /** Whether rebuild replaces operators by the view. */
        boolean isViewed;

        Terms(Signature signature) {
            this.signature = signature;
            for (int v = 0; v < ALL_VARIABLES; v++) {
                cells[v] = v;
            }
        }

        void startAnew() {
            top = WORK_AT;
            awaited = 0;
            hole = NONE;
            isViewed = false;
            giveNothing();
        }

        void giveNothing() {
            Arrays.fill(given, NONE);
        }

        void await(int at) {
            if (awaited < MOST_WAITING) {
                waiting[awaited] = at;
                awaited++;
            }
        }

        /** The place behind a term. */
        int end(int at) {
            int open = 1;
            int i = at;
            while (open > 0 && i < CELLS) {
                int code = cells[i];
                open += code < FIRST_CODE ? -1 : code % CODES - 1;
                i++;
            }
            return i;
        }

        /** Below, at or above 0, as the one term is ahead of, the same as or behind the other one. */
        int order(int one, int other) {
            int open = 1;
            for (int i = 0; i < MOST_SIZE && open > 0; i++) {
                int code = cells[one + i];
                if (code != cells[other + i]) {
                    return code - cells[other + i];
                }
                open += code < FIRST_CODE ? -1 : code % CODES - 1;
            }
            return 0;
        }

        void store(int at, int slot) {
            System.arraycopy(cells, at, cells, slot, end(at) - at);
        }

        /** Frees all from the mark on but the term, which it moves there, unless that lies before. */
        int settle(int mark, int at) {
            if (at < mark) {
                top = mark;
                return at;
            }
            int size = end(at) - at;
            System.arraycopy(cells, at, cells, mark, size);
            top = mark + size;
            return mark;
        }

        /** Bit k: the variable k is in the term. */
        int variablesAt(int at) {
            int set = 0;
            int end = end(at);
            for (int i = at; i < end; i++) {
                set |= cells[i] < FIRST_CODE ? 1 << cells[i] : 0;
            }
            return set;
        }

        boolean canBePattern(int at) {
            return Integer.bitCount(variablesAt(at)) <= MOST_PATTERN_VARIABLES;
        }

        boolean canBeLeft(int at) {
            return cells[at] >= FIRST_CODE && canBePattern(at);
        }

        private int sortAt(int at) {
            int code = cells[at];
            if (code < FIRST_CODE) {
                return signature.variableSort[code % VARIABLES];
            }
            int operator = operatorIn(code);
            int count = code % CODES;
            int next = at + 1;
            int first = count > 0 ? sortAt(next) : NONE;
            next = count > 0 ? end(next) : next;
            int second = count > 1 ? sortAt(next) : NONE;
            next = count > 1 ? end(next) : next;
            if (signature.axioms[operator] < ROW) {
                return signature.resultOf(operator, first, second, count > 2 ? sortAt(next) : NONE);
            }
            int sort = signature.resultOf(operator, first, second, NONE);
            for (int i = 2; i < count; i++) {
                sort = signature.resultOf(operator, sort, sortAt(next), NONE);
                next = end(next);
            }
            return sort;
        }

        /**
         * Puts an operator on the terms that wait from the base on, which wait no longer.
         * Returns where the new term begins, or NONE if it would be too large.
         */
        int putOn(int operator, int base) {
            int axioms = signature.axioms[operator];
            boolean isJoined = axioms >= ROW;
            int identity = signature.identity[operator];
            int left = identity == NONE ? NONE : FIRST_CODE + identity * CODES;
            int last = awaited;
            int count = 0;
            awaited = base;
            for (int i = base; i < last; i++) {
                int part = waiting[i];
                int code = cells[part];
                boolean isSame = isJoined && code / CODES - BEFORE_OPERATORS == operator;
                int parts = isSame ? code % CODES : code == left ? 0 : 1;
                part += isSame ? 1 : 0;
                for (int k = 0; k < parts; k++) {
                    if (count >= MOST_ARGUMENTS) {
                        return NONE;
                    }
                    int to = count;
                    while (to > 0 && (axioms == PAIR || axioms == BAG) && order(part, spread[to - 1]) < 0) {
                        spread[to] = spread[to - 1];
                        spreadSize[to] = spreadSize[to - 1];
                        to--;
                    }
                    spread[to] = part;
                    part = end(part);
                    spreadSize[to] = part - spread[to];
                    count++;
                }
            }
            if (count == 1 && isJoined) {
                return spread[0];
            }
            return write(count == 0 && isJoined ? left : FIRST_CODE + operator * CODES + count, count);
        }

        private int write(int code, int count) {
            int at = top;
            if (at >= FULL) {
                return NONE;
            }
            cells[at] = code;
            int next = at + 1;
            for (int i = 0; i < count; i++) {
                if (next - at + spreadSize[i] > MOST_SIZE) {
                    return NONE;
                }
                System.arraycopy(cells, spread[i], cells, next, spreadSize[i]);
                next += spreadSize[i];
            }
            top = next;
            return at;
        }

        /**
         * Makes a term again from the innermost operators out, with what is given for variables,
         * the hole filled, and operators replaced if it is viewed. NONE if one would be too large.
         */
        private int rebuild(int at) {
            if (at == hole) {
                return filling;
            }
            int code = cells[at];
            if (code < FIRST_CODE) {
                return given[code] == NONE ? code : given[code];
            }
            int base = awaited;
            int next = at + 1;
            for (int i = 0; i < code % CODES; i++) {
                int made = rebuild(next);
                if (made < 0) {
                    awaited = base;
                    return NONE;
                }
                await(made);
                next = end(next);
            }
            int operator = operatorIn(code);
            return putOn(isViewed ? signature.views[operator] : operator, base);
        }
    }

    /** The equations, and behind them the rules, both with their conditions. */
    private static final class Laws {
        final Terms terms;
        private final Signature signature;
        int equations;
        int rules;
        final boolean[] hasCondition = new boolean[MOST_LAWS];

        Laws(Terms terms) {
            this.terms = terms;
            signature = terms.signature;
        }

        boolean areTold() {
            return equations + rules > 0;
        }

        int partAt(int law, int part) {
            return LAWS_AT + (law * ALL_PARTS + part) * MOST_SIZE;
        }

        /** Its parts lie there already. */
        int add(boolean isRule, boolean itsCondition) {
            hasCondition[isRule ? MOST_EQUATIONS + rules : equations] = itsCondition;
            rules += isRule ? 1 : 0;
            equations += isRule ? 0 : 1;
            return (isRule ? rules : equations) - 1;
        }

        /** As a net tells. */
        boolean canFit(int law, int at) {
            int left = partAt(law, LEFT);
            int code = terms.cells[left];
            int operator = operatorIn(code);
            if (signature.identity[operator] != NONE) {
                return true;
            }
            int there = terms.cells[at];
            if (there < FIRST_CODE || operatorIn(there) != operator) {
                return false;
            }
            if (signature.axioms[operator] != FREE) {
                return true;
            }
            int mine = left + 1;
            int its = at + 1;
            for (int i = 0; i < code % CODES; i++) {
                if (!argumentFits(terms.cells[mine], terms.cells[its])) {
                    return false;
                }
                mine = terms.end(mine);
                its = terms.end(its);
            }
            return true;
        }

        private boolean argumentFits(int mine, int its) {
            if (mine < FIRST_CODE || signature.identity[operatorIn(mine)] != NONE) {
                return true;
            }
            return its >= FIRST_CODE && operatorIn(its) == operatorIn(mine);
        }
    }

    /**
     * All that a variable can be given in a match to a subject: each term in it, each part of the
     * arguments of a ROW and a BAG, and each identity. Equal ones count as one, so that they are
     * compared by number.
     */
    private static final class Pieces {
        private static final int MOST = 256;
        private static final int MASKS = 1 << MOST_ARGUMENTS;
        final Terms terms;
        private final Signature signature;
        int count;
        final int[] where = new int[MOST];
        private final int[] sizes = new int[MOST];
        /** The outermost operator; below 0 for a variable. */
        final int[] heads = new int[MOST];
        /** The place in the subject whose arguments it has, and which of these, as bits. */
        private final int[] nodes = new int[MOST];
        private final int[] masks = new int[MOST];
        /** The first one that is the same term. */
        final int[] same = new int[MOST];
        /** The different ones in the order of terms, and the place of each there. */
        int different;
        final int[] sorted = new int[MOST];
        final int[] rank = new int[MOST];
        /** For each place of the subject the places of its arguments, and the parts of these. */
        private final int[] child = new int[MOST_SIZE * MOST_ARGUMENTS];
        private final int[] part = new int[MOST_SIZE * MASKS];
        /** The piece that is the identity of each operator, or NONE. */
        private final int[] unit = new int[MOST_OPERATORS];
        /** Where the terms of the different pieces are told, by rank. */
        int rankedAt;

        Pieces(Terms terms) {
            this.terms = terms;
            signature = terms.signature;
        }

        private int add(int at, int size, int node, int mask) {
            if (count >= MOST) {
                return 0;
            }
            where[count] = at;
            sizes[count] = size;
            heads[count] = terms.cells[at] / CODES - BEFORE_OPERATORS;
            nodes[count] = node;
            masks[count] = mask;
            count++;
            return count - 1;
        }

        /** The piece of each place has the same number as the place. */
        void collect(int subject) {
            int end = terms.end(subject);
            count = 0;
            for (int at = subject; at < end && count < MOST_SIZE; at++) {
                int code = terms.cells[at];
                int arguments = code < FIRST_CODE ? 0 : code % CODES;
                int next = at + 1;
                for (int i = 0; i < arguments && i < MOST_ARGUMENTS; i++) {
                    child[count * MOST_ARGUMENTS + i] = next - subject;
                    next = terms.end(next);
                }
                add(at, next - at, count, (1 << arguments) - 1);
            }
        }

        void addParts() {
            int places = count;
            for (int k = 0; k < places; k++) {
                int axioms = heads[k] < 0 ? FREE : signature.axioms[heads[k]];
                for (int m = 1; m < masks[k] && axioms >= ROW && terms.top < FULL; m++) {
                    int behind = m + Integer.lowestOneBit(m);
                    boolean isSideBySide = Integer.bitCount(behind) == 1;
                    if (Integer.bitCount(m) == 1) {
                        int first = Integer.numberOfTrailingZeros(m);
                        part[k * MASKS + m] = child[k * MOST_ARGUMENTS + first];
                    } else if (axioms == BAG || isSideBySide) {
                        int at = terms.top;
                        writePart(k, m);
                        part[k * MASKS + m] = add(at, terms.top - at, k, m);
                    }
                }
                part[k * MASKS + masks[k] % MASKS] = k;
            }
        }

        private void writePart(int place, int mask) {
            int next = terms.top + 1;
            terms.cells[terms.top] = FIRST_CODE + heads[place] * CODES + Integer.bitCount(mask);
            for (int i = 0; i < MOST_ARGUMENTS; i++) {
                if ((mask >> i & 1) == 1) {
                    int argument = child[place * MOST_ARGUMENTS + i];
                    System.arraycopy(terms.cells, where[argument], terms.cells, next, sizes[argument]);
                    next += sizes[argument];
                }
            }
            terms.top = next;
        }

        void addIdentities() {
            for (int o = 0; o < signature.operators; o++) {
                unit[o] = NONE;
                if (signature.identity[o] != NONE && terms.top < FULL) {
                    terms.cells[terms.top] = FIRST_CODE + signature.identity[o] * CODES;
                    terms.top++;
                    unit[o] = add(terms.top - 1, 1, 0, 0);
                }
            }
        }

        void rankAll() {
            different = 0;
            for (int k = 0; k < count; k++) {
                int low = 0;
                int high = different;
                while (low < high) {
                    int middle = (low + high) / 2;
                    boolean isBehind = terms.order(where[k], where[sorted[middle]]) > 0;
                    low = isBehind ? middle + 1 : low;
                    high = isBehind ? high : middle;
                }
                boolean isNew = low == different || terms.order(where[k], where[sorted[low]]) != 0;
                same[k] = isNew ? k : sorted[low];
                if (isNew) {
                    System.arraycopy(sorted, low, sorted, low + 1, different - low);
                    sorted[low] = k;
                    different++;
                }
            }
            rankedAt = terms.top;
            for (int r = 0; r < different && rankedAt + r < FULL; r++) {
                rank[sorted[r]] = r;
                terms.cells[rankedAt + r] = where[sorted[r]];
                terms.top = rankedAt + r + 1;
            }
        }

        int argument(int piece, int place) {
            return same[child[nodes[piece] * MOST_ARGUMENTS + place]];
        }

        /** Which arguments it gives to an operator that is put on it, as bits; bit 0 for itself. */
        int maskFor(int piece, int operator) {
            if (unit[operator] != NONE && same[unit[operator]] == piece) {
                return 0;
            }
            return heads[piece] == operator ? masks[piece] : 1;
        }

        /** Whether one of two same arguments side by side is left, and the other one chosen: the first ones do. */
        boolean passesOver(int piece, int chosen, int rest) {
            int behind = chosen & (rest & ~chosen) << 1;
            for (int i = 1; i < MOST_ARGUMENTS && behind != 0; i++) {
                int at = nodes[piece] * MOST_ARGUMENTS + i;
                if ((behind >> i & 1) == 1 && same[child[at]] == same[child[at - 1]]) {
                    return true;
                }
            }
            return false;
        }

        /** The operator on these of the arguments that the piece gives to it; NONE if there is none. */
        int partFor(int piece, int operator, int chosen) {
            if (chosen == 0) {
                return unit[operator] == NONE ? NONE : same[unit[operator]];
            }
            return heads[piece] == operator ? same[part[nodes[piece] * MASKS + chosen % MASKS]] : piece;
        }
    }

    /** Finds all matches of a pattern to a subject. */
    private static final class Matcher {
        /** A place of a pattern, and an argument that shares, is a duty at most once at a time. */
        private static final int MOST_DUTIES = 64;
        private static final int DUTIES_AT_ONCE = 8;
        final Terms terms;
        private final Signature signature;
        private final Pieces pieces;
        private final int[] sorts = new int[Pieces.MOST];
        private final int[] bound = new int[ALL_VARIABLES];
        private int variables;
        /**
         * What is still to be met, as chains: that a place of the pattern becomes a piece; or, where
         * arguments are left, that these of the operator, the first one being there, share a part of
         * the piece.
         */
        private final int[] dutyAt = new int[MOST_DUTIES];
        private final int[] dutyPiece = new int[MOST_DUTIES];
        private final int[] dutyOperator = new int[MOST_DUTIES];
        private final int[] dutyLeft = new int[MOST_DUTIES];
        private final int[] dutyMask = new int[MOST_DUTIES];
        private final int[] dutyNext = new int[MOST_DUTIES];
        private int duties;
        /** Where the last list lies, each match as one number, made of the ranks of its terms. */
        int listAt;
        /** Where the terms of these ranks are told. */
        int rankedAt;
        private int found;

        Matcher(Terms terms) {
            this.terms = terms;
            signature = terms.signature;
            pieces = new Pieces(terms);
        }

        /** Lists the matches in their order, and returns how many there are. */
        int list(int pattern, int subject) {
            pieces.collect(subject);
            pieces.addParts();
            pieces.addIdentities();
            pieces.rankAll();
            for (int r = 0; r < pieces.different; r++) {
                int piece = pieces.sorted[r];
                sorts[piece] = terms.sortAt(pieces.where[piece]);
            }
            rankedAt = pieces.rankedAt;
            listAt = terms.top;
            found = 0;
            duties = 0;
            variables = terms.variablesAt(pattern);
            Arrays.fill(bound, NONE);
            solve(addDuty(pattern, pieces.same[0], NONE));
            terms.top = listAt + found;
            return found;
        }

        /** Counts the matches by putting each term that could be in place of each variable. */
        int countByTrying(int pattern, int subject) {
            pieces.collect(subject);
            pieces.addParts();
            pieces.addIdentities();
            pieces.rankAll();
            if (pieces.different > MOST_TRIED) {
                return NONE;
            }
            int set = terms.variablesAt(pattern);
            int ways = 1;
            for (int k = 0; k < Integer.bitCount(set); k++) {
                ways *= pieces.different;
            }
            int mark = terms.top;
            int count = 0;
            for (int way = 0; way < ways; way++) {
                terms.top = mark;
                if (giveWay(way, set)) {
                    int made = terms.rebuild(pattern);
                    count += made >= 0 && terms.order(made, subject) == 0 ? 1 : 0;
                }
            }
            return count;
        }

        /** Returns whether the sorts allow it. */
        private boolean giveWay(int way, int set) {
            int rest = way;
            terms.giveNothing();
            for (int v = 0; v < VARIABLES; v++) {
                if ((set >> v & 1) == 1 && pieces.different > 0) {
                    int at = terms.cells[pieces.rankedAt + rest % pieces.different];
                    rest /= pieces.different;
                    if (!signature.reaches(terms.sortAt(at), signature.variableSort[v])) {
                        return false;
                    }
                    terms.given[v] = at;
                }
            }
            return true;
        }

        /** Gives the variables of a pattern the terms of a match in a list. */
        void giveMatch(int pattern, int matchAt, int ranks) {
            int set = terms.variablesAt(pattern);
            int key = terms.cells[matchAt];
            terms.giveNothing();
            for (int v = VARIABLES - 1; v >= 0; v--) {
                if ((set >> v & 1) == 1) {
                    terms.given[v] = terms.cells[ranks + key % Pieces.MOST];
                    key /= Pieces.MOST;
                }
            }
        }

        private int addDuty(int at, int piece, int next) {
            int duty = duties;
            dutyAt[duty] = at;
            dutyPiece[duty] = piece;
            dutyLeft[duty] = 0;
            dutyNext[duty] = next;
            duties++;
            return duty;
        }

        private void solve(int duty) {
            if (duty == NONE) {
                noteMatch();
                return;
            }
            int mark = duties;
            if (mark > MOST_DUTIES - DUTIES_AT_ONCE) {
                return;
            }
            if (dutyLeft[duty] > 0) {
                share(duty);
            } else if (terms.cells[dutyAt[duty]] < FIRST_CODE) {
                bind(duty);
            } else {
                meet(duty);
            }
            duties = mark;
        }

        private void bind(int duty) {
            int v = terms.cells[dutyAt[duty]];
            int piece = dutyPiece[duty];
            if (bound[v] == piece) {
                solve(dutyNext[duty]);
                return;
            }
            int most = signature.variableSort[v % VARIABLES];
            if (bound[v] == NONE && signature.reaches(sorts[piece], most)) {
                bound[v] = piece;
                solve(dutyNext[duty]);
                bound[v] = NONE;
            }
        }

        private void meet(int duty) {
            int at = dutyAt[duty];
            int piece = dutyPiece[duty];
            int code = terms.cells[at];
            int operator = operatorIn(code);
            if (signature.axioms[operator] >= ROW) {
                int first = addDuty(at + 1, piece, dutyNext[duty]);
                dutyOperator[first] = operator;
                dutyLeft[first] = code % CODES;
                dutyMask[first] = pieces.maskFor(piece, operator);
                solve(first);
                return;
            }
            if (pieces.heads[piece] != operator) {
                return;
            }
            meetArguments(duty, code % CODES, false);
            if (signature.axioms[operator] == PAIR && pieces.argument(piece, 0) != pieces.argument(piece, 1)) {
                meetArguments(duty, code % CODES, true);
            }
        }

        private void meetArguments(int duty, int count, boolean isSwapped) {
            int mark = duties;
            int next = dutyNext[duty];
            int at = dutyAt[duty] + 1;
            for (int i = 0; i < count; i++) {
                int place = isSwapped ? count - 1 - i : i;
                next = addDuty(at, pieces.argument(dutyPiece[duty], place), next);
                at = terms.end(at);
            }
            solve(next);
            duties = mark;
        }

        /** Gives the first of the arguments that are left each part that it could have. */
        private void share(int duty) {
            int operator = dutyOperator[duty];
            int left = dutyLeft[duty];
            int rest = dutyMask[duty];
            boolean isRow = signature.axioms[operator] == ROW;
            int size = Integer.bitCount(rest);
            int ways = left == 1 ? 1 : isRow ? size + 1 : 1 << size;
            int chosen = left == 1 ? rest : 0;
            int mark = duties;
            for (int way = 0; way < ways; way++) {
                boolean isTwice = !isRow && pieces.passesOver(dutyPiece[duty], chosen, rest);
                int piece = isTwice ? NONE : pieces.partFor(dutyPiece[duty], operator, chosen);
                int next = dutyNext[duty];
                if (piece != NONE && left > 1) {
                    next = addDuty(terms.end(dutyAt[duty]), dutyPiece[duty], next);
                    dutyOperator[next] = operator;
                    dutyLeft[next] = left - 1;
                    dutyMask[next] = rest & ~chosen;
                }
                if (piece != NONE) {
                    solve(addDuty(dutyAt[duty], piece, next));
                    duties = mark;
                }
                int more = Integer.lowestOneBit(rest & ~chosen);
                chosen = isRow ? chosen | more : (chosen - rest) & rest;
            }
        }

        /** Puts the match in the list, unless it is there. */
        private void noteMatch() {
            int key = 0;
            for (int v = 0; v < VARIABLES; v++) {
                if ((variables >> v & 1) == 1 && bound[v] != NONE) {
                    key = key * Pieces.MOST + pieces.rank[bound[v]];
                }
            }
            int low = listAt;
            int high = listAt + found;
            while (low < high) {
                int middle = (low + high) / 2;
                boolean isBehind = key > terms.cells[middle];
                low = isBehind ? middle + 1 : low;
                high = isBehind ? high : middle;
            }
            int end = listAt + found;
            if (end >= FULL || low < end && terms.cells[low] == key) {
                return;
            }
            System.arraycopy(terms.cells, low, terms.cells, low + 1, end - low);
            terms.cells[low] = key;
            found++;
        }
    }

    /**
     * Reduces terms by the equations. The terms within terms that are open lie on a stack of their
     * own, as there may be many more of them than a term is deep: what an equation makes has to be
     * reduced within what is open already.
     */
    private static final class Reducer {
        /** The term at first, and what each step makes, open so many terms at the most. */
        private static final int MOST_OPEN = (MOST_STEPS + 2) * MOST_SIZE;
        /** Far above what the steps allow. */
        private static final int MOST_TURNS = 1000000;
        final Terms terms;
        final Laws laws;
        final Matcher matcher;
        int steps;
        private int open;
        /** For each open term where it lies, and what was free when it was opened. */
        private final int[] openAt = new int[MOST_OPEN];
        private final int[] marks = new int[MOST_OPEN];
        /** Its next argument, how many are left, and where those that are reduced wait. */
        private final int[] nexts = new int[MOST_OPEN];
        private final int[] lefts = new int[MOST_OPEN];
        private final int[] bases = new int[MOST_OPEN];

        Reducer(Laws laws, Matcher matcher) {
            terms = laws.terms;
            this.laws = laws;
            this.matcher = matcher;
        }

        /** Returns where the normal form lies, or FAILED. The level is how many conditions this is in. */
        private int normalForm(int at, int level) {
            int bottom = open;
            int result = begin(at);
            for (int turn = 0; turn < MOST_TURNS && result == NONE; turn++) {
                int last = open - 1;
                if (lefts[last] > 0) {
                    int argument = nexts[last];
                    nexts[last] = terms.end(argument);
                    lefts[last]--;
                    result = begin(argument);
                } else {
                    result = finish(last, bottom, level);
                }
            }
            open = bottom;
            return result == NONE ? FAILED : result;
        }

        private int begin(int at) {
            if (open >= MOST_OPEN) {
                return FAILED;
            }
            marks[open] = terms.top;
            open++;
            look(open - 1, at);
            return NONE;
        }

        private void look(int place, int at) {
            int code = terms.cells[at];
            openAt[place] = at;
            nexts[place] = at + 1;
            lefts[place] = code < FIRST_CODE ? 0 : code % CODES;
            bases[place] = terms.awaited;
        }

        /** Its arguments are reduced. Returns NONE as long as terms are open above the bottom. */
        private int finish(int last, int bottom, int level) {
            int at = openAt[last];
            int code = terms.cells[at];
            int whole = code < FIRST_CODE ? at : terms.putOn(operatorIn(code), bases[last]);
            if (whole < 0) {
                return FAILED;
            }
            int made = terms.cells[whole] < FIRST_CODE ? NONE : rewritten(whole, level);
            if (made == FAILED) {
                return FAILED;
            }
            if (made != NONE) {
                look(last, terms.settle(marks[last], made));
                return NONE;
            }
            int form = terms.settle(marks[last], whole);
            open = last;
            if (last == bottom) {
                return form;
            }
            terms.await(form);
            return NONE;
        }

        /** What the first equation that can be used makes of a term; NONE if there is none. */
        private int rewritten(int at, int level) {
            int mark = terms.top;
            for (int k = 0; k < laws.equations; k++) {
                int count = laws.canFit(k, at) ? matcher.list(laws.partAt(k, LEFT), at) : 0;
                int list = matcher.listAt;
                int ranks = matcher.rankedAt;
                for (int m = 0; m < count; m++) {
                    int answer = decide(k, list + m, ranks, level);
                    if (answer == 1) {
                        steps++;
                        matcher.giveMatch(laws.partAt(k, LEFT), list + m, ranks);
                        int made = steps > MOST_STEPS ? FAILED : terms.rebuild(laws.partAt(k, RIGHT));
                        return made < 0 ? FAILED : terms.settle(mark, made);
                    }
                    if (answer == FAILED) {
                        return FAILED;
                    }
                }
                terms.top = mark;
            }
            return NONE;
        }

        /** Whether the condition of a law holds with a match: 1 if so, 0 if not, or FAILED. */
        private int decide(int law, int matchAt, int ranks, int level) {
            if (!laws.hasCondition[law]) {
                return 1;
            }
            steps++;
            if (steps > MOST_STEPS || level >= MOST_DEPTH) {
                return FAILED;
            }
            int mark = terms.top;
            matcher.giveMatch(laws.partAt(law, LEFT), matchAt, ranks);
            int one = terms.rebuild(laws.partAt(law, CONDITION));
            int other = terms.rebuild(laws.partAt(law, CONDITION + 1));
            if (one < 0 || other < 0) {
                return FAILED;
            }
            one = normalForm(one, level + 1);
            other = one < 0 ? FAILED : normalForm(other, level + 1);
            if (other < 0) {
                return FAILED;
            }
            terms.top = mark;
            return terms.order(one, other) == 0 ? 1 : 0;
        }
    }

    /** Goes through all matches of a rule at all places of a term. */
    private static final class Walker {
        final Terms terms;
        final Reducer reducer;
        final Laws laws;
        final Matcher matcher;
        private int term;
        private int end;
        private int law;
        private int place;
        private int mark;
        private int list;
        private int ranks;
        private int count;
        private int next;
        private int listEnd;
        /** The steps of the last outcome. */
        int taken;

        Walker(Reducer reducer) {
            terms = reducer.terms;
            this.reducer = reducer;
            laws = reducer.laws;
            matcher = reducer.matcher;
        }

        void begin(int at, int rule) {
            term = at;
            end = terms.end(at);
            law = MOST_EQUATIONS + rule;
            place = at - 1;
            mark = terms.top;
            count = 0;
            next = 0;
        }

        /** Goes to the next match; returns whether there is one. */
        boolean advance() {
            while (next >= count && place + 1 < end) {
                place++;
                terms.top = mark;
                next = 0;
                count = laws.canFit(law, place) ? matcher.list(laws.partAt(law, LEFT), place) : 0;
                list = matcher.listAt;
                ranks = matcher.rankedAt;
                listEnd = terms.top;
            }
            next++;
            return next <= count;
        }

        /** What the term goes on to by this match; NONE if the condition does not hold. */
        int outcome() {
            int matchAt = list + next - 1;
            terms.top = listEnd;
            reducer.steps = 0;
            int answer = reducer.decide(law, matchAt, ranks, 0);
            taken = reducer.steps;
            if (answer != 1) {
                return answer == 0 ? NONE : FAILED;
            }
            matcher.giveMatch(laws.partAt(law, LEFT), matchAt, ranks);
            int right = terms.rebuild(laws.partAt(law, RIGHT));
            if (right < 0) {
                return FAILED;
            }
            terms.giveNothing();
            terms.hole = place;
            terms.filling = right;
            int whole = terms.rebuild(term);
            terms.hole = NONE;
            if (whole < 0) {
                return FAILED;
            }
            reducer.steps = 0;
            int made = reducer.normalForm(whole, 0);
            taken += reducer.steps;
            return made;
        }
    }

    /** Searches, and knows the states of the last search. */
    private static final class Explorer {
        private final Terms terms;
        private final Walker walker;
        /** 0 if there is no search. */
        int states;
        boolean cut;
        final int[] from = new int[MOST_STATES];
        final int[] by = new int[MOST_STATES];
        /** Bit k: one goes on to the state k. */
        private final int[] ahead = new int[MOST_STATES];
        private int used;
        private int taken;

        Explorer(Walker walker) {
            terms = walker.terms;
            this.walker = walker;
        }

        int explore(int at) {
            states = 0;
            cut = false;
            used = 0;
            walker.reducer.steps = 0;
            int start = walker.reducer.normalForm(at, 0);
            if (start < 0) {
                return FAILED;
            }
            taken = walker.reducer.steps;
            enter(start, 0, 0);
            for (int s = 0; s < states && !cut; s++) {
                if (!expand(s)) {
                    states = 0;
                    cut = false;
                    return FAILED;
                }
            }
            return states;
        }

        private int stateAt(int state) {
            return STATES_AT + state * MOST_SIZE;
        }

        private void enter(int at, int itsFrom, int itsBy) {
            terms.store(at, stateAt(states));
            from[states] = itsFrom;
            by[states] = itsBy;
            ahead[states] = 0;
            states++;
        }

        /** Returns false if reducing fails. */
        private boolean expand(int state) {
            for (int rule = 0; rule < walker.laws.rules; rule++) {
                terms.top = WORK_AT;
                walker.begin(stateAt(state), rule);
                for (int n = 0; n <= MOST_MATCHES && !cut && walker.advance(); n++) {
                    if (used >= MOST_MATCHES || taken >= STEPS_IN_ALL) {
                        cut = true;
                        return true;
                    }
                    used++;
                    int made = walker.outcome();
                    taken += walker.taken;
                    if (made == FAILED) {
                        return false;
                    }
                    cut = made >= 0 && !reach(made, state, rule);
                }
            }
            return true;
        }

        /** Returns false if there would be too many states. */
        private boolean reach(int at, int itsFrom, int itsBy) {
            int to = 0;
            while (to < states && terms.order(at, stateAt(to)) != 0) {
                to++;
            }
            if (to >= MOST_STATES) {
                return false;
            }
            if (to == states) {
                enter(at, itsFrom, itsBy);
            }
            ahead[itsFrom] |= 1 << to;
            return true;
        }

        /** Bit k: the pattern has a match to the state k. */
        int statesWith(int pattern) {
            int set = 0;
            for (int s = 0; s < states; s++) {
                terms.top = WORK_AT;
                set |= walker.matcher.list(pattern, stateAt(s)) > 0 ? 1 << s : 0;
            }
            return set;
        }

        /** The states from which one comes to one of the set, however one goes on. */
        int surelyComeTo(int set) {
            int sure = set;
            for (int round = 0; round < states; round++) {
                for (int s = 0; s < states; s++) {
                    boolean allLead = ahead[s] != 0 && (ahead[s] & ~sure) == 0;
                    sure |= allLead ? 1 << s : 0;
                }
            }
            return sure;
        }
    }

    /** The stack of strategies, the parts of each behind one another, a part behind its own parts. */
    private static final class Plans {
        static final int USE = 0, IDLE = 1, TEST = 2, THEN = 3, ELSE = 4, MANY = 5;
        private static final int MOST = MOST_STRATEGIES * MOST_PARTS;
        private final Terms terms;
        private final Walker walker;
        int count;
        private int parts;
        private final int[] kinds = new int[MOST];
        private final int[] rules = new int[MOST];
        /** How many parts each has, with itself. */
        private final int[] sizes = new int[MOST];
        int uses;
        private int taken;

        Plans(Walker walker) {
            terms = walker.terms;
            this.walker = walker;
        }

        int addOne(int kind, int rule) {
            addPart(kind, 1);
            rules[parts - 1] = rule;
            count++;
            return count;
        }

        private void addPart(int kind, int size) {
            kinds[parts] = kind;
            sizes[parts] = size;
            parts++;
        }

        private int testAt(int part) {
            return TESTS_AT + part * MOST_SIZE;
        }

        int nextTestAt() {
            return testAt(parts);
        }

        int partsOfLast() {
            return sizes[parts - 1];
        }

        int partsOfLastTwo() {
            return partsOfLast() + sizes[parts - 1 - partsOfLast()];
        }

        int joinLastTwo(int kind) {
            addPart(kind, partsOfLastTwo() + 1);
            count--;
            return count;
        }

        int repeatLast() {
            addPart(MANY, partsOfLast() + 1);
            return count;
        }

        /** Returns its outermost part; its parts stay as they are until others come. */
        int takeLast() {
            int root = parts - 1;
            parts -= sizes[root];
            count--;
            uses = 0;
            taken = 0;
            return root;
        }

        /** What a strategy gives; NONE if it fails, FAILED if it is broken off. */
        private int perform(int part, int at) {
            switch (kinds[part]) {
                case USE:
                    return useOnce(rules[part], at);
                case IDLE:
                    return at;
                case TEST:
                    return passes(part, at) ? at : NONE;
                case MANY:
                    return performAgain(part - 1, at);
                default:
                    return performTwo(part, at);
            }
        }

        private int performTwo(int part, int at) {
            int second = part - 1;
            int first = second - sizes[second];
            int made = perform(first, at);
            if (kinds[part] == THEN) {
                return made < 0 ? made : perform(second, made);
            }
            return made == NONE ? perform(second, at) : made;
        }

        private int performAgain(int part, int at) {
            int now = at;
            for (int round = 0; round < MOST_ROUNDS; round++) {
                int made = perform(part, now);
                if (made < 0) {
                    return made == NONE ? now : FAILED;
                }
                now = made;
            }
            return FAILED;
        }

        private boolean passes(int part, int at) {
            int mark = terms.top;
            int found = walker.matcher.list(testAt(part), at);
            terms.top = mark;
            return found > 0;
        }

        private int useOnce(int rule, int at) {
            uses++;
            if (uses > MOST_USES) {
                return FAILED;
            }
            int mark = terms.top;
            walker.begin(at, rule);
            for (int n = 0; n < MOST_MATCHES && walker.advance(); n++) {
                int made = taken >= STEPS_IN_ALL ? FAILED : walker.outcome();
                taken += walker.taken;
                if (made != NONE) {
                    return made < 0 ? FAILED : terms.settle(mark, made);
                }
            }
            terms.top = mark;
            return NONE;
        }
    }

    /** The critical pairs, whether they join, and what becomes of those that do not. */
    private static final class CriticalPairs {
        private static final int NUMBER = ALL_VARIABLES;
        private final Terms terms;
        private final Signature signature;
        private final Laws laws;
        private final Reducer reducer;
        int count;
        private final int[] firsts = new int[MOST_PAIRS];
        private final int[] seconds = new int[MOST_PAIRS];
        private final int[] places = new int[MOST_PAIRS];
        /** Of how many equations the pairs are, which are never told otherwise. */
        private int upTo;
        private final int[] unifier = new int[ALL_VARIABLES];
        private int one;
        private int other;
        /** The steps of all that were compared. */
        int taken;
        /** How much more often the one value has each variable, and by how much its number is greater. */
        private final long[] difference = new long[ALL_VARIABLES + 1];

        CriticalPairs(Reducer reducer) {
            terms = reducer.terms;
            signature = terms.signature;
            laws = reducer.laws;
            this.reducer = reducer;
        }

        void bringUpToDate() {
            if (upTo == laws.equations) {
                return;
            }
            upTo = laws.equations;
            count = 0;
            for (int k = 0; k < upTo * upTo; k++) {
                int first = k / upTo;
                int second = k % upTo;
                int left = laws.partAt(first, LEFT);
                int size = isOpen(first) && isOpen(second) ? terms.end(left) - left : 0;
                for (int place = first == second ? 1 : 0; place < size && count < MOST_PAIRS; place++) {
                    if (terms.cells[left + place] >= FIRST_CODE && make(first, second, place)) {
                        firsts[count] = first;
                        seconds[count] = second;
                        places[count] = place;
                        count++;
                    }
                }
            }
        }

        /** Whether it has no condition, and a left side of FREE operators. */
        private boolean isOpen(int equation) {
            int left = laws.partAt(equation, LEFT);
            int end = terms.end(left);
            for (int at = left; at < end; at++) {
                int code = terms.cells[at];
                if (code >= FIRST_CODE && signature.axioms[operatorIn(code)] != FREE) {
                    return false;
                }
            }
            return !laws.hasCondition[equation];
        }

        /** Makes both members, if there is such a pair and none is too large. */
        private boolean make(int first, int second, int place) {
            terms.startAnew();
            int left = laws.partAt(first, LEFT);
            for (int v = 0; v < VARIABLES; v++) {
                terms.given[v] = v + VARIABLES;
            }
            int shifted = terms.rebuild(laws.partAt(second, LEFT));
            if (shifted < 0 || !unify(left + place, shifted)) {
                return false;
            }
            for (int v = 0; v < VARIABLES; v++) {
                int its = unifier[v + VARIABLES];
                terms.given[v] = its == NONE ? v + VARIABLES : its;
            }
            int inner = terms.rebuild(laws.partAt(second, RIGHT));
            System.arraycopy(unifier, 0, terms.given, 0, ALL_VARIABLES);
            int source = terms.rebuild(left);
            one = terms.rebuild(laws.partAt(first, RIGHT));
            if (inner < 0 || source < 0 || one < 0) {
                return false;
            }
            terms.hole = left + place;
            terms.filling = inner;
            other = terms.rebuild(left);
            terms.hole = NONE;
            return other >= 0;
        }

        /** Each round gives one variable a term, so that it is in none of both any more. */
        private boolean unify(int its, int mine) {
            int here = its;
            int there = mine;
            Arrays.fill(unifier, NONE);
            for (int round = 0; round <= ALL_VARIABLES && here >= 0 && there >= 0; round++) {
                int end = terms.end(here);
                int at = here;
                while (at < end && terms.cells[at] == terms.cells[there + at - here]) {
                    at++;
                }
                if (at == end) {
                    return true;
                }
                if (!giveOne(at, there + at - here)) {
                    return false;
                }
                here = terms.rebuild(here);
                there = terms.rebuild(there);
            }
            return false;
        }

        /** Makes two terms the same that begin differently, by a variable that is one of both. */
        private boolean giveOne(int here, int there) {
            int mine = terms.cells[here];
            int its = terms.cells[there];
            boolean isMine = mine < FIRST_CODE && (its >= FIRST_CODE || mine > its);
            int variable = isMine ? mine : its;
            int term = isMine ? there : here;
            if (variable >= FIRST_CODE || (terms.variablesAt(term) >> variable & 1) == 1) {
                return false;
            }
            terms.giveNothing();
            terms.given[variable] = term;
            for (int v = 0; v < ALL_VARIABLES; v++) {
                if (unifier[v] != NONE) {
                    unifier[v] = terms.rebuild(unifier[v]);
                    if (unifier[v] == NONE) {
                        return false;
                    }
                }
            }
            unifier[variable] = term;
            return true;
        }

        /** Whether a pair joins: 1 if so, 0 if not, or FAILED. */
        int compare(int pair) {
            if (!make(firsts[pair], seconds[pair], places[pair])) {
                return FAILED;
            }
            terms.giveNothing();
            reducer.steps = 0;
            one = reducer.normalForm(one, 0);
            taken += reducer.steps;
            if (one < 0) {
                return FAILED;
            }
            reducer.steps = 0;
            other = reducer.normalForm(other, 0);
            taken += reducer.steps;
            return other < 0 ? FAILED : terms.order(one, other) == 0 ? 1 : 0;
        }

        /** Makes an equation of the pair that was compared last, if it can be one. */
        boolean becomesEquation() {
            weigh(one, other);
            boolean isOneAbove = isAbove(1);
            int left = isOneAbove ? one : other;
            int right = isOneAbove ? other : one;
            if (!isOneAbove && !isAbove(-1) || !terms.canBeLeft(left) || !giveNewNumbers(left)) {
                return false;
            }
            int newLeft = terms.rebuild(left);
            int newRight = terms.rebuild(right);
            if (newLeft < 0 || newRight < 0) {
                return false;
            }
            terms.store(newLeft, laws.partAt(laws.equations, LEFT));
            terms.store(newRight, laws.partAt(laws.equations, RIGHT));
            laws.add(false, false);
            return true;
        }

        private boolean giveNewNumbers(int left) {
            int end = terms.end(left);
            int used = 0;
            terms.giveNothing();
            for (int at = left; at < end; at++) {
                int old = terms.cells[at];
                if (old < FIRST_CODE && terms.given[old] == NONE) {
                    int sort = signature.variableSort[old % VARIABLES];
                    int v = 0;
                    while (v < VARIABLES && ((used >> v & 1) == 1 || signature.variableSort[v] != sort)) {
                        v++;
                    }
                    if (v == VARIABLES) {
                        return false;
                    }
                    used |= 1 << v;
                    terms.given[old] = v;
                }
            }
            return true;
        }

        void weigh(int left, int right) {
            Arrays.fill(difference, 0);
            addValue(left, 1);
            addValue(right, -1);
        }

        /** Whether the one that was weighed first is above the other one; with -1 the other way round. */
        boolean isAbove(int sign) {
            for (int v = 0; v < ALL_VARIABLES; v++) {
                if (sign * difference[v] < 0) {
                    return false;
                }
            }
            return sign * difference[NUMBER] > 0;
        }

        private void addValue(int at, long times) {
            int code = terms.cells[at];
            if (code < FIRST_CODE) {
                difference[code] += times;
                return;
            }
            int operator = operatorIn(code);
            int own = operator * (MOST_ARITY + 1);
            boolean isJoined = signature.axioms[operator] >= ROW;
            int count = code % CODES;
            difference[NUMBER] += isJoined ? 0 : times * signature.weights[own];
            int next = at + 1;
            for (int i = 0; i < count; i++) {
                // Of more arguments than two, those before are one, so that the operator comes again.
                long around = times;
                for (int k = isJoined ? Math.max(i, 1) + 1 : count; k < count; k++) {
                    around *= signature.weights[own + 1];
                }
                difference[NUMBER] += isJoined && i > 0 ? around * signature.weights[own] : 0;
                int place = isJoined ? Math.min(i, 1) : i;
                addValue(next, around * signature.weights[own + 1 + place]);
                next = terms.end(next);
            }
        }
    }
}
