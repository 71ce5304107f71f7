import java.util.Arrays;

/** An engine of rules: facts, rules that match them, an agenda, and what holds because of what. */
public final class RuleForge {
    private static final int RULES = 6;
    private static final int CONDITIONS = 4;
    private static final int ACTIONS = 3;
    private static final int VARIABLES = 6;
    private static final int PLACES = 3;
    private static final int KINDS = 8;
    private static final int OF_KIND = 6;
    private static final int FACTS = KINDS * OF_KIND;
    private static final int SLOTS = 3;
    private static final int TUPLES = OF_KIND * OF_KIND * OF_KIND;
    private static final int MATCHES = RULES * TUPLES;
    private static final int MOST_URGENCY = 9;
    private static final int MOST_VALUE = 999;
    private static final int MOST_FIRINGS = 20;

    private static final int EACH = 0;
    private static final int NONE = 1;
    private static final int AT_LEAST = 2;

    private static final int TEST_ANY = 0;
    private static final int TEST_IS = 1;
    private static final int TEST_LESS = 2;
    private static final int TEST_MORE = 3;
    private static final int TEST_IS_VARIABLE = 4;
    private static final int TEST_IS_NOT_VARIABLE = 7;
    /** A test of a variable less this is the test of a number that compares alike (4 is left for "is not"). */
    private static final int VARIABLE_TESTS = TEST_IS_VARIABLE - TEST_IS;

    private static final int STATE = 0;
    private static final int SUPPORT = 1;
    private static final int RETRACT = 2;

    /** More than any number that a fact bears in 512 calls, and its third power still fits into a long. */
    private static final long RANK_BASE = 1L << 21;
    private static final long DIGEST_START = 58028L;
    private static final long DIGEST_FACTOR = 31L;

    private final Rule[] rules;
    private int ruleCount;
    private final World now;
    /** What would be is played out in here, so that nothing is changed by asking. */
    private final World trial;

    /** Creates an engine without rules and facts. */
    public RuleForge() {
        Rule[] made = new Rule[RULES];
        for (int r = 0; r < RULES; r++) {
            made[r] = new Rule();
        }
        rules = made;
        now = new World(made);
        trial = new World(made);
    }

    // ---- building rules

    public int addRule(int urgency) throws IllegalArgumentException, IllegalStateException {
        if (urgency < -MOST_URGENCY || urgency > MOST_URGENCY) {
            throw new IllegalArgumentException("urgency is not -9 to 9");
        }
        if (ruleCount >= RULES) {
            throw new IllegalStateException("there are 6 rules");
        }
        rules[ruleCount].urgency = urgency;
        ruleCount++;
        return ruleCount - 1;
    }

    public int addCondition(int rule, int sort, int kind, int n)
            throws IndexOutOfBoundsException, IllegalArgumentException, IllegalStateException {
        Rule r = needRule(rule);
        if (sort < EACH || sort > AT_LEAST || !isKind(kind) || n < 1 || n > OF_KIND) {
            throw new IllegalArgumentException("sort, kind or n is out of its bounds");
        }
        Conditions conditions = r.conditions;
        boolean isFull = conditions.count >= CONDITIONS || (sort == EACH && conditions.places >= PLACES);
        if (r.on || isFull) {
            throw new IllegalStateException("the rule is on or full");
        }
        return conditions.append(sort, kind, n);
    }

    public int setTest(int rule, int condition, int slot, int test, int v)
            throws IndexOutOfBoundsException, IllegalArgumentException, IllegalStateException {
        Rule r = needRule(rule);
        needCondition(r, condition);
        if (!isSlot(slot) || test < TEST_ANY || test > TEST_IS_NOT_VARIABLE || !isTestNumber(test, v)) {
            throw new IllegalArgumentException("slot, test or v is out of its bounds");
        }
        if (r.on) {
            throw new IllegalStateException("the rule is on");
        }
        return r.conditions.replaceTest(condition, slot, test, v);
    }

    public int addTold(int rule, boolean isSupport, int kind)
            throws IndexOutOfBoundsException, IllegalArgumentException, IllegalStateException {
        Rule r = needRule(rule);
        if (!isKind(kind)) {
            throw new IllegalArgumentException("kind is not 0 to 7");
        }
        if (r.on || r.actions.count >= ACTIONS) {
            throw new IllegalStateException("the rule is on or full");
        }
        return r.actions.append(isSupport ? SUPPORT : STATE, kind, -1);
    }

    public int setValue(int rule, int action, int slot, int variable, int plus)
            throws IndexOutOfBoundsException, IllegalArgumentException, IllegalStateException {
        Rule r = needRule(rule);
        if (action < 0 || action >= r.actions.count) {
            throw new IndexOutOfBoundsException("no such action");
        }
        if (!isSlot(slot) || variable < -1 || variable >= VARIABLES || !isValue(plus)) {
            throw new IllegalArgumentException("slot, variable or plus is out of its bounds");
        }
        if (r.on || r.actions.isRetract(action)) {
            throw new IllegalStateException("the rule is on, or the action is RETRACT");
        }
        return r.actions.replaceValue(action, slot, variable, plus);
    }

    public int addRetract(int rule, int condition)
            throws IndexOutOfBoundsException, IllegalArgumentException, IllegalStateException {
        Rule r = needRule(rule);
        if (condition < 0 || condition >= CONDITIONS) {
            throw new IllegalArgumentException("condition is not 0 to 3");
        }
        if (r.on || r.actions.count >= ACTIONS) {
            throw new IllegalStateException("the rule is on or full");
        }
        return r.actions.append(RETRACT, 0, condition);
    }

    public int switchOn(int rule) throws IndexOutOfBoundsException, IllegalStateException {
        Rule r = needRule(rule);
        if (r.on || !r.isWellMade()) {
            throw new IllegalStateException("the rule is on, or not SOUND");
        }
        r.on = true;
        now.matches.findAnew(rule, r.conditions, now.facts);
        return now.matches.count[rule];
    }

    public int switchOff(int rule) throws IndexOutOfBoundsException, IllegalStateException {
        Rule r = needRule(rule);
        if (!r.on) {
            throw new IllegalStateException("the rule is off");
        }
        int before = now.facts.total;
        r.on = false;
        now.matches.forget(rule);
        now.settle(now.dropLoose());
        return before - now.facts.total;
    }

    // ---- facts

    public int state(int kind, int a, int b, int c) throws IllegalArgumentException, IllegalStateException {
        if (!isKind(kind) || !isValue(a) || !isValue(b) || !isValue(c)) {
            throw new IllegalArgumentException("kind or a value is out of its bounds");
        }
        int number = now.stateFact(kind, a, b, c);
        if (number < 0) {
            throw new IllegalStateException("there are 6 of this kind");
        }
        return number;
    }

    public int takeBack(int fact) throws IndexOutOfBoundsException, IllegalStateException {
        int at = needFact(fact);
        if (!now.facts.stated[at]) {
            throw new IllegalStateException("the fact is not STATED");
        }
        int before = now.facts.total;
        now.facts.stated[at] = false;
        now.settle(now.dropLoose());
        return before - now.facts.total;
    }

    public int retract(int fact) throws IndexOutOfBoundsException {
        return now.removeFact(needFact(fact));
    }

    public int fire(int most) throws IllegalArgumentException {
        needMost(most);
        return now.fireUpTo(most);
    }

    // ---- rules, asked

    public int rules() {
        return ruleCount;
    }

    public boolean isOn(int rule) throws IndexOutOfBoundsException {
        return needRule(rule).on;
    }

    public boolean isSound(int rule) throws IndexOutOfBoundsException {
        return needRule(rule).isWellMade();
    }

    public int urgency(int rule) throws IndexOutOfBoundsException {
        return needRule(rule).urgency;
    }

    public int conditions(int rule) throws IndexOutOfBoundsException {
        return needRule(rule).conditions.count;
    }

    public int actions(int rule) throws IndexOutOfBoundsException {
        return needRule(rule).actions.count;
    }

    public int candidates(int rule, int condition) throws IndexOutOfBoundsException {
        Rule r = needRule(rule);
        needCondition(r, condition);
        return r.conditions.countCandidates(condition, now.facts);
    }

    public int firings(int rule) throws IndexOutOfBoundsException {
        needRule(rule);
        return now.firings[rule];
    }

    // ---- facts, asked

    public int facts() {
        return now.facts.total;
    }

    public int next() {
        return now.facts.next;
    }

    public boolean isThere(int fact) {
        return now.facts.placeOf(fact) >= 0;
    }

    public int find(int kind, int a, int b, int c) {
        return now.facts.numberAt(now.facts.placeLike(kind, a, b, c));
    }

    public int kindOf(int fact) throws IndexOutOfBoundsException {
        return needFact(fact) / OF_KIND;
    }

    public int valueOf(int fact, int slot) throws IndexOutOfBoundsException {
        int at = needFact(fact);
        if (!isSlot(slot)) {
            throw new IndexOutOfBoundsException("slot is not 0 to 2");
        }
        return now.facts.valueAt(at, slot);
    }

    public boolean isStated(int fact) throws IndexOutOfBoundsException {
        return now.facts.stated[needFact(fact)];
    }

    public int supports(int fact) throws IndexOutOfBoundsException {
        needFact(fact);
        return now.countSupports(fact);
    }

    public int because(int fact) throws IndexOutOfBoundsException {
        needFact(fact);
        return now.firstReason(fact);
    }

    public int distance(int fact) throws IndexOutOfBoundsException {
        int at = needFact(fact);
        now.findDistances();
        return now.distances[at];
    }

    public int uses(int fact) throws IndexOutOfBoundsException {
        return now.countUses(needFact(fact));
    }

    // ---- matches and the agenda, asked

    public int matches(int rule) throws IndexOutOfBoundsException {
        needRule(rule);
        return now.matches.count[rule];
    }

    public int factOf(int rule, int match, int place) throws IndexOutOfBoundsException {
        int m = needMatch(rule, match);
        if (place < 0 || place >= rules[rule].conditions.places) {
            throw new IndexOutOfBoundsException("no such place");
        }
        return now.factAt(m, place);
    }

    public boolean hasFired(int rule, int match) throws IndexOutOfBoundsException {
        return now.matches.isSpent(needMatch(rule, match));
    }

    public int variableOf(int rule, int match, int variable) throws IndexOutOfBoundsException {
        int m = needMatch(rule, match);
        if (variable < 0 || variable >= VARIABLES) {
            throw new IndexOutOfBoundsException("variable is not 0 to 5");
        }
        return now.variableIn(m, rules[rule].conditions, variable);
    }

    public int agenda() {
        return now.countWaiting();
    }

    public int nextRule() {
        int first = now.firstWaiting();
        return first < 0 ? -1 : first / TUPLES;
    }

    public int nextFact(int place) {
        return now.factAt(now.firstWaiting(), place);
    }

    public int fired() {
        return now.fired;
    }

    public double meanSupports() {
        Facts facts = now.facts;
        if (facts.total == 0) {
            return 0.0;
        }
        int sum = 0;
        for (int i = 0; i < FACTS; i++) {
            if (facts.number[i] >= 0) {
                sum += now.countSupports(facts.number[i]);
            }
        }
        return (double) sum / facts.total;
    }

    // ---- what would be (nothing is changed)

    public int factsBehind(int most) throws IllegalArgumentException {
        needMost(most);
        trial.become(now);
        trial.fireUpTo(most);
        return trial.facts.total;
    }

    public int firingsToRest(int most) throws IllegalArgumentException {
        needMost(most);
        trial.become(now);
        int done = trial.fireUpTo(most);
        return trial.firstWaiting() < 0 ? done : -1;
    }

    public int wouldGo(int fact) throws IndexOutOfBoundsException {
        int at = needFact(fact);
        trial.become(now);
        return trial.removeFact(at);
    }

    public boolean wouldHold(int kind, int a, int b, int c, int most) throws IllegalArgumentException {
        needMost(most);
        trial.become(now);
        trial.fireUpTo(most);
        return trial.facts.placeLike(kind, a, b, c) >= 0;
    }

    public long digest() {
        long d = DIGEST_START;
        d = d * DIGEST_FACTOR + ruleCount;
        d = d * DIGEST_FACTOR + now.facts.total;
        d = d * DIGEST_FACTOR + now.facts.next;
        d = d * DIGEST_FACTOR + now.countWaiting();
        int first = now.firstWaiting();
        d = d * DIGEST_FACTOR + (first < 0 ? -1 : first / TUPLES);
        for (int place = 0; place < PLACES; place++) {
            d = d * DIGEST_FACTOR + now.factAt(first, place);
        }
        d = d * DIGEST_FACTOR + now.fired;
        for (int r = 0; r < ruleCount; r++) {
            d = digestOfRule(d, r);
        }
        now.findDistances();
        int last = -1;
        for (int i = 0; i < now.facts.total; i++) {
            int at = now.facts.placeAfter(last);
            d = digestOfFact(d, at);
            last = now.facts.numberAt(at);
        }
        return d;
    }

    private long digestOfRule(long before, int r) {
        Rule rule = rules[r];
        long d = before * DIGEST_FACTOR + (rule.on ? 1 : 0);
        d = d * DIGEST_FACTOR + (rule.isWellMade() ? 1 : 0);
        d = d * DIGEST_FACTOR + rule.urgency;
        d = d * DIGEST_FACTOR + rule.conditions.count;
        d = d * DIGEST_FACTOR + rule.actions.count;
        d = d * DIGEST_FACTOR + now.firings[r];
        d = d * DIGEST_FACTOR + now.matches.count[r];
        for (int i = 0; i < now.matches.count[r]; i++) {
            int m = now.matches.matchAt(r, i);
            for (int place = 0; place < rule.conditions.places; place++) {
                d = d * DIGEST_FACTOR + now.factAt(m, place);
            }
            d = d * DIGEST_FACTOR + (now.matches.isSpent(m) ? 1 : 0);
        }
        return d;
    }

    private long digestOfFact(long before, int at) {
        Facts facts = now.facts;
        int number = facts.numberAt(at);
        if (number < 0) {
            return before;
        }
        long d = before * DIGEST_FACTOR + number;
        d = d * DIGEST_FACTOR + at / OF_KIND;
        for (int slot = 0; slot < SLOTS; slot++) {
            d = d * DIGEST_FACTOR + facts.valueAt(at, slot);
        }
        d = d * DIGEST_FACTOR + (facts.stated[at] ? 1 : 0);
        d = d * DIGEST_FACTOR + now.countSupports(number);
        d = d * DIGEST_FACTOR + now.firstReason(number);
        d = d * DIGEST_FACTOR + now.distances[at];
        return d * DIGEST_FACTOR + now.countUses(at);
    }

    // ---- what the calls need

    private Rule needRule(int rule) {
        if (rule < 0 || rule >= ruleCount) {
            throw new IndexOutOfBoundsException("no such rule");
        }
        return rules[rule];
    }

    private static void needCondition(Rule rule, int condition) {
        if (condition < 0 || condition >= rule.conditions.count) {
            throw new IndexOutOfBoundsException("no such condition");
        }
    }

    private int needFact(int fact) {
        int at = now.facts.placeOf(fact);
        if (at < 0) {
            throw new IndexOutOfBoundsException("no fact with this number now");
        }
        return at;
    }

    private int needMatch(int rule, int match) {
        needRule(rule);
        int m = now.matches.matchAt(rule, match);
        if (m < 0) {
            throw new IndexOutOfBoundsException("no such match");
        }
        return m;
    }

    private static void needMost(int most) {
        if (most < 1 || most > MOST_FIRINGS) {
            throw new IllegalArgumentException("most is not 1 to 20");
        }
    }

    private static boolean isKind(int kind) {
        return kind >= 0 && kind < KINDS;
    }

    private static boolean isSlot(int slot) {
        return slot >= 0 && slot < SLOTS;
    }

    private static boolean isValue(int value) {
        return value >= -MOST_VALUE && value <= MOST_VALUE;
    }

    private static boolean isTestNumber(int test, int v) {
        return test < TEST_IS_VARIABLE ? isValue(v) : v >= 0 && v < VARIABLES;
    }

    // ---- the parts

    private static final class Rule {
        int urgency;
        boolean on;
        final Conditions conditions = new Conditions();
        final Actions actions = new Actions();

        /** Whether the rule is SOUND. */
        boolean isWellMade() {
            return conditions.count > 0 && conditions.areBoundAhead() && actions.restOn(conditions);
        }
    }

    /** The conditions of a rule; what is kept for each slot of each stands at condition * SLOTS + slot. */
    private static final class Conditions {
        int count;
        /** How many are EACH: the places in the row of facts of a match. */
        int places;
        /** A bit for each kind that one of them has. */
        int kindBits;
        final int[] sort = new int[CONDITIONS];
        final int[] kind = new int[CONDITIONS];
        final int[] least = new int[CONDITIONS];
        /** For each place its condition. */
        final int[] conditionOf = new int[PLACES];
        final int[] test = new int[CONDITIONS * SLOTS];
        final int[] number = new int[CONDITIONS * SLOTS];
        /** For each variable where the test stands that binds it, -1 without one. */
        final int[] boundAt = new int[VARIABLES];

        Conditions() {
            for (int v = 0; v < VARIABLES; v++) {
                boundAt[v] = -1;
            }
        }

        int append(int itsSort, int itsKind, int itsLeast) {
            if (count < 0 || count >= CONDITIONS) {
                return -1;
            }
            sort[count] = itsSort;
            kind[count] = itsKind;
            least[count] = itsLeast;
            kindBits |= 1 << itsKind;
            if (itsSort == EACH && places < PLACES) {
                conditionOf[places] = count;
                places++;
            }
            count++;
            return count - 1;
        }

        int replaceTest(int condition, int slot, int newTest, int newNumber) {
            int at = condition * SLOTS + slot;
            if (at < 0 || at >= test.length) {
                return -1;
            }
            int old = test[at];
            test[at] = newTest;
            number[at] = newNumber;
            bindVariables();
            return old;
        }

        private void bindVariables() {
            Arrays.fill(boundAt, -1);
            for (int at = 0; at < count * SLOTS; at++) {
                int v = number[at];
                boolean binds = sort[at / SLOTS] == EACH && test[at] == TEST_IS_VARIABLE;
                if (binds && v >= 0 && v < VARIABLES && boundAt[v] < 0) {
                    boundAt[v] = at;
                }
            }
        }

        /** Whether each test of a variable binds it or stands behind the one that does. */
        boolean areBoundAhead() {
            for (int at = 0; at < count * SLOTS; at++) {
                int binder = binderOf(number[at]);
                if (test[at] >= TEST_IS_VARIABLE && (binder < 0 || binder > at)) {
                    return false;
                }
            }
            return true;
        }

        boolean isEach(int condition) {
            return condition >= 0 && condition < count && sort[condition] == EACH;
        }

        /** The condition at a place, -1 if the rule lacks the place. */
        int conditionAt(int place) {
            return place >= 0 && place < places && place < PLACES ? conditionOf[place] : -1;
        }

        /** The place of a condition in the row of facts, -1 if it is not EACH. */
        int placeFor(int condition) {
            for (int place = 0; place < PLACES; place++) {
                if (condition >= 0 && conditionAt(place) == condition) {
                    return place;
                }
            }
            return -1;
        }

        int kindAt(int condition) {
            return condition >= 0 && condition < CONDITIONS ? kind[condition] : -1;
        }

        /** Where the test stands that binds a variable, -1 without one. */
        int binderOf(int variable) {
            return variable >= 0 && variable < VARIABLES ? boundAt[variable] : -1;
        }

        /** Whether a fact fulfils all tests of a condition; a test that binds writes into bound. */
        boolean pass(int condition, int at, Facts facts, int[] bound) {
            if (condition < 0 || condition >= CONDITIONS) {
                return false;
            }
            for (int slot = 0; slot < SLOTS; slot++) {
                int its = condition * SLOTS + slot;
                if (test[its] == TEST_ANY) {
                    continue;
                }
                int value = facts.valueAt(at, slot);
                int v = number[its];
                if (test[its] < TEST_IS_VARIABLE) {
                    if (!compares(test[its], value, v)) {
                        return false;
                    }
                } else if (v < 0 || v >= VARIABLES || v >= bound.length) {
                    return false;
                } else if (boundAt[v] == its) {
                    bound[v] = value;
                } else if (!compares(test[its] - VARIABLE_TESTS, value, bound[v])) {
                    return false;
                }
            }
            return true;
        }

        private static boolean compares(int how, int value, int other) {
            switch (how) {
                case TEST_IS:
                    return value == other;
                case TEST_LESS:
                    return value < other;
                case TEST_MORE:
                    return value > other;
                default:
                    return value != other;
            }
        }

        /** Whether each NONE and each AT LEAST is so, with the variables as bound. */
        boolean countsAreSo(Facts facts, int[] bound) {
            for (int c = 0; c < count; c++) {
                if (sort[c] == EACH) {
                    continue;
                }
                int have = 0;
                for (int i = 0; i < facts.countOf(kind[c]); i++) {
                    if (pass(c, facts.placeByAge(kind[c], i), facts, bound)) {
                        have++;
                    }
                }
                if (sort[c] == NONE ? have > 0 : have < least[c]) {
                    return false;
                }
            }
            return true;
        }

        int countCandidates(int condition, Facts facts) {
            int have = 0;
            int itsKind = kindAt(condition);
            for (int i = 0; i < facts.countOf(itsKind); i++) {
                if (passNumbers(condition, facts.placeByAge(itsKind, i), facts)) {
                    have++;
                }
            }
            return have;
        }

        private boolean passNumbers(int condition, int at, Facts facts) {
            if (condition < 0 || condition >= CONDITIONS) {
                return false;
            }
            for (int slot = 0; slot < SLOTS; slot++) {
                int its = condition * SLOTS + slot;
                boolean isOfNumber = test[its] != TEST_ANY && test[its] < TEST_IS_VARIABLE;
                if (isOfNumber && !compares(test[its], facts.valueAt(at, slot), number[its])) {
                    return false;
                }
            }
            return true;
        }
    }

    /** The actions of a rule; what is kept for each slot of each stands at action * SLOTS + slot. */
    private static final class Actions {
        int count;
        final int[] sort = new int[ACTIONS];
        final int[] kind = new int[ACTIONS];
        final int[] condition = new int[ACTIONS];
        final int[] variable = new int[ACTIONS * SLOTS];
        final int[] plus = new int[ACTIONS * SLOTS];

        Actions() {
            for (int at = 0; at < ACTIONS * SLOTS; at++) {
                variable[at] = -1;
            }
        }

        int append(int itsSort, int itsKind, int itsCondition) {
            if (count < 0 || count >= ACTIONS) {
                return -1;
            }
            sort[count] = itsSort;
            kind[count] = itsKind;
            condition[count] = itsCondition;
            count++;
            return count - 1;
        }

        boolean isRetract(int action) {
            return action >= 0 && action < ACTIONS && sort[action] == RETRACT;
        }

        boolean isSupport(int action) {
            return action >= 0 && action < ACTIONS && sort[action] == SUPPORT;
        }

        int kindOfTold(int action) {
            return action >= 0 && action < ACTIONS ? kind[action] : -1;
        }

        int conditionOf(int action) {
            return action >= 0 && action < ACTIONS ? condition[action] : -1;
        }

        int replaceValue(int action, int slot, int newVariable, int newPlus) {
            int at = action * SLOTS + slot;
            if (at < 0 || at >= variable.length) {
                return -1;
            }
            int old = variable[at];
            variable[at] = newVariable;
            plus[at] = newPlus;
            return old;
        }

        /** Whether the conditions bind all variables of the actions, and have an EACH for each RETRACT. */
        boolean restOn(Conditions conditions) {
            for (int a = 0; a < count; a++) {
                if (sort[a] == RETRACT && !conditions.isEach(condition[a])) {
                    return false;
                }
                for (int slot = 0; slot < SLOTS; slot++) {
                    int v = variable[a * SLOTS + slot];
                    if (v >= 0 && conditions.binderOf(v) < 0) {
                        return false;
                    }
                }
            }
            return true;
        }

        /** The value that an action tells for a slot. */
        int toldValue(int action, int slot, int[] values) {
            int at = action * SLOTS + slot;
            if (at < 0 || at >= variable.length) {
                return 0;
            }
            int v = variable[at];
            int sum = plus[at] + (v >= 0 && v < values.length ? values[v] : 0);
            return Math.max(-MOST_VALUE, Math.min(MOST_VALUE, sum));
        }
    }

    /**
     * The facts. Each has a place, from its kind * OF_KIND on, that it keeps as long as it is there;
     * behind it another one may get the place, but never the number.
     */
    private static final class Facts {
        int next;
        int total;
        /** For each place the number of the fact there, -1 without one. */
        final int[] number = new int[FACTS];
        final boolean[] stated = new boolean[FACTS];
        final int[] value = new int[FACTS * SLOTS];
        final int[] ofKind = new int[KINDS];
        /** From kind * OF_KIND on: the places of the kind's facts, by rising numbers. */
        final int[] byAge = new int[FACTS];

        Facts() {
            for (int at = 0; at < FACTS; at++) {
                number[at] = -1;
            }
        }

        void become(Facts other) {
            next = other.next;
            total = other.total;
            System.arraycopy(other.number, 0, number, 0, FACTS);
            for (int at = 0; at < FACTS; at++) {
                stated[at] = other.stated[at];
            }
            System.arraycopy(other.value, 0, value, 0, FACTS * SLOTS);
            System.arraycopy(other.ofKind, 0, ofKind, 0, KINDS);
            System.arraycopy(other.byAge, 0, byAge, 0, FACTS);
        }

        /** The place of the fact with a number, -1 without one. */
        int placeOf(int fact) {
            if (fact < 0 || fact >= next) {
                return -1;
            }
            for (int at = 0; at < FACTS; at++) {
                if (number[at] == fact) {
                    return at;
                }
            }
            return -1;
        }

        /** The place of the fact of a kind with these values, -1 without one. */
        int placeLike(int kind, int a, int b, int c) {
            if (kind < 0 || kind >= KINDS) {
                return -1;
            }
            for (int at = kind * OF_KIND; at < (kind + 1) * OF_KIND; at++) {
                int v = at * SLOTS;
                if (number[at] >= 0 && value[v] == a && value[v + 1] == b && value[v + 2] == c) {
                    return at;
                }
            }
            return -1;
        }

        /** The place of the fact with the smallest number above this one, -1 without one. */
        int placeAfter(int fact) {
            int best = -1;
            for (int at = 0; at < FACTS; at++) {
                if (number[at] > fact && (best < 0 || number[at] < number[best])) {
                    best = at;
                }
            }
            return best;
        }

        int countOf(int kind) {
            return kind >= 0 && kind < KINDS ? ofKind[kind] : 0;
        }

        int placeByAge(int kind, int i) {
            int at = kind * OF_KIND + i;
            return at >= 0 && at < FACTS ? byAge[at] : -1;
        }

        int numberAt(int at) {
            return at >= 0 && at < FACTS ? number[at] : -1;
        }

        int valueAt(int at, int slot) {
            int its = at * SLOTS + slot;
            return its >= 0 && its < value.length ? value[its] : 0;
        }

        private int freePlace(int kind) {
            if (kind < 0 || kind >= KINDS) {
                return -1;
            }
            for (int at = kind * OF_KIND; at < (kind + 1) * OF_KIND; at++) {
                if (number[at] < 0) {
                    return at;
                }
            }
            return -1;
        }

        /** The place of the fact of a kind with these values, new if need be; -1 if there are 6 others of this kind. */
        int findOrCreate(int kind, int a, int b, int c) {
            int at = placeLike(kind, a, b, c);
            return at >= 0 ? at : create(kind, a, b, c);
        }

        /** Makes a new fact, not STATED; its place, or -1 if there are 6 of this kind. */
        private int create(int kind, int a, int b, int c) {
            int at = freePlace(kind);
            if (at < 0 || countOf(kind) >= OF_KIND) {
                return -1;
            }
            number[at] = next;
            next++;
            total++;
            stated[at] = false;
            value[at * SLOTS] = a;
            value[at * SLOTS + 1] = b;
            value[at * SLOTS + 2] = c;
            byAge[kind * OF_KIND + ofKind[kind]] = at;
            ofKind[kind]++;
            return at;
        }

        void drop(int at) {
            if (at < 0 || at >= FACTS || number[at] < 0) {
                return;
            }
            number[at] = -1;
            stated[at] = false;
            total--;
            int kind = at / OF_KIND;
            int kept = 0;
            for (int i = 0; i < ofKind[kind]; i++) {
                int other = byAge[kind * OF_KIND + i];
                if (other != at) {
                    byAge[kind * OF_KIND + kept] = other;
                    kept++;
                }
            }
            ofKind[kind] = kept;
        }
    }

    /**
     * The matches of all rules. A match is known by rule * TUPLES + the number that the places of its facts
     * make, each within its kind. As all matches are found anew between the end of a fact and the next fact
     * in its place, this number means the same facts as long as the match is there.
     */
    private static final class Matches {
        /** How often the matches of each rule were found. */
        final int[] pass = new int[RULES];
        /** For each match the last pass that found it: it is there if that is the pass of its rule. */
        final int[] seen = new int[MATCHES];
        final int[] count = new int[RULES];
        /** From rule * TUPLES on: the matches that are there, by rising numbers of their facts. */
        final int[] list = new int[MATCHES];
        final boolean[] fired = new boolean[MATCHES];
        /** The numbers of its facts in falling order, so that the greater row has the greater rank. */
        final long[] rank = new long[MATCHES];
        /** For each match and place of its row where the fact is, -1 for none. */
        final int[] row = new int[MATCHES * PLACES];
        /** For each match and action the number of the fact that it SUPPORTS by it, -1 for none. */
        final int[] told = new int[MATCHES * ACTIONS];
        private final int[] chosen = new int[PLACES];
        private final int[] bound = new int[VARIABLES];

        Matches() {
            // seen starts with 0, and no match may look as if the pass ahead of the first had found it
            for (int r = 0; r < RULES; r++) {
                pass[r] = 1;
            }
        }

        void become(Matches other) {
            System.arraycopy(other.pass, 0, pass, 0, RULES);
            System.arraycopy(other.seen, 0, seen, 0, MATCHES);
            System.arraycopy(other.count, 0, count, 0, RULES);
            System.arraycopy(other.list, 0, list, 0, MATCHES);
            for (int m = 0; m < MATCHES; m++) {
                fired[m] = other.fired[m];
            }
            System.arraycopy(other.rank, 0, rank, 0, MATCHES);
            System.arraycopy(other.row, 0, row, 0, MATCHES * PLACES);
            System.arraycopy(other.told, 0, told, 0, MATCHES * ACTIONS);
        }

        /** The match of a rule with a number, -1 without one. */
        int matchAt(int rule, int i) {
            if (rule < 0 || rule >= RULES || i < 0 || i >= count[rule] || i >= TUPLES) {
                return -1;
            }
            return list[rule * TUPLES + i];
        }

        private static boolean isMatch(int m) {
            return m >= 0 && m < MATCHES;
        }

        /** Whether a match that is there has FIRED. */
        boolean isSpent(int m) {
            return isMatch(m) && fired[m];
        }

        /** Whether a match that FIRED is there; one that came to be again since then has not FIRED. */
        boolean isStillSpent(int m) {
            return isMatch(m) && seen[m] == pass[m / TUPLES] && fired[m];
        }

        void markFired(int m) {
            if (isMatch(m)) {
                fired[m] = true;
            }
        }

        long rankOf(int m) {
            return isMatch(m) ? rank[m] : -1;
        }

        void forget(int rule) {
            if (rule >= 0 && rule < RULES) {
                pass[rule]++;
                count[rule] = 0;
            }
        }

        void findAnew(int rule, Conditions conditions, Facts facts) {
            forget(rule);
            int first = widthOf(0, conditions, facts);
            int second = widthOf(1, conditions, facts);
            int third = widthOf(2, conditions, facts);
            for (int i = 0; i < first; i++) {
                if (!choose(0, i, conditions, facts)) {
                    continue;
                }
                for (int j = 0; j < second; j++) {
                    if (!choose(1, j, conditions, facts)) {
                        continue;
                    }
                    for (int k = 0; k < third; k++) {
                        if (choose(2, k, conditions, facts) && conditions.countsAreSo(facts, bound)) {
                            keep(rule, facts);
                        }
                    }
                }
            }
        }

        /** How many facts can stand at a place; a place that the rule lacks is passed in one step. */
        private static int widthOf(int place, Conditions conditions, Facts facts) {
            int condition = conditions.conditionAt(place);
            return condition < 0 ? 1 : facts.countOf(conditions.kindAt(condition));
        }

        /** Puts the i-th fact of its kind at a place; whether it fulfils the tests there. */
        private boolean choose(int place, int i, Conditions conditions, Facts facts) {
            if (place < 0 || place >= PLACES) {
                return false;
            }
            int condition = conditions.conditionAt(place);
            if (condition < 0) {
                chosen[place] = -1;
                return true;
            }
            chosen[place] = facts.placeByAge(conditions.kindAt(condition), i);
            return conditions.pass(condition, chosen[place], facts, bound);
        }

        private void keep(int rule, Facts facts) {
            if (rule < 0 || rule >= RULES || count[rule] >= TUPLES) {
                return;
            }
            int m = rule;
            for (int place = 0; place < PLACES; place++) {
                m = m * OF_KIND + Math.max(chosen[place], 0) % OF_KIND;
            }
            if (!isMatch(m)) {
                return;
            }
            if (seen[m] != pass[rule] - 1) {
                bear(m, facts);
            }
            seen[m] = pass[rule];
            list[rule * TUPLES + count[rule]] = m;
            count[rule]++;
        }

        /** Makes a match that was not there till now: it has not FIRED, and SUPPORTS nothing. */
        private void bear(int m, Facts facts) {
            if (!isMatch(m)) {
                return;
            }
            fired[m] = false;
            for (int place = 0; place < PLACES; place++) {
                row[m * PLACES + place] = chosen[place];
            }
            for (int a = 0; a < ACTIONS; a++) {
                told[m * ACTIONS + a] = -1;
            }
            int a = facts.numberAt(chosen[0]);
            int b = facts.numberAt(chosen[1]);
            int c = facts.numberAt(chosen[2]);
            int most = Math.max(a, Math.max(b, c));
            int least = Math.min(a, Math.min(b, c));
            int middle = a + b + c - most - least;
            // a lacking number is -1, so that the longer of two rows that are alike so far is greater
            rank[m] = ((most + 1) * RANK_BASE + middle + 1) * RANK_BASE + least + 1;
        }

        boolean supportsFact(int m, int fact) {
            if (!isMatch(m) || !fired[m]) {
                return false;
            }
            for (int a = 0; a < ACTIONS; a++) {
                if (told[m * ACTIONS + a] == fact) {
                    return true;
                }
            }
            return false;
        }

        /** The number of the fact that a match SUPPORTS by an action, -1 without one. */
        int toldBy(int m, int action) {
            return isMatch(m) && action >= 0 && action < ACTIONS ? told[m * ACTIONS + action] : -1;
        }

        void support(int m, int action, int fact) {
            if (isMatch(m) && action >= 0 && action < ACTIONS) {
                told[m * ACTIONS + action] = fact;
            }
        }

        boolean hasPlace(int m, int at) {
            for (int place = 0; place < PLACES; place++) {
                if (placeAt(m, place) == at) {
                    return true;
                }
            }
            return false;
        }

        /** Where the fact at a place in the row of a match is, -1 if there is none. */
        int placeAt(int m, int place) {
            return isMatch(m) && place >= 0 && place < PLACES ? row[m * PLACES + place] : -1;
        }
    }

    /** Facts, matches and what fired: all that firing changes. The rules are shared, as it leaves them alone. */
    private static final class World {
        private final Rule[] rules;
        final Facts facts = new Facts();
        final Matches matches = new Matches();
        final int[] firings = new int[RULES];
        int fired;
        /** For each place of a fact its distance, as findDistances() left it. */
        final int[] distances = new int[FACTS];
        /** The numbers of the facts and the values of the variables of the match that fires. */
        private final int[] firingFacts = new int[PLACES];
        private final int[] firingValues = new int[VARIABLES];

        World(Rule[] rules) {
            this.rules = rules;
        }

        void become(World other) {
            facts.become(other.facts);
            matches.become(other.matches);
            System.arraycopy(other.firings, 0, firings, 0, RULES);
            fired = other.fired;
        }

        /** States a fact; its number, or -1 if there are 6 of its kind and none like it. */
        int stateFact(int kind, int a, int b, int c) {
            int expected = facts.next;
            int at = facts.findOrCreate(kind, a, b, c);
            if (at < 0 || at >= FACTS) {
                return -1;
            }
            int number = facts.number[at];
            facts.stated[at] = true;
            if (facts.next != expected) {
                settle(1 << kind);
            }
            return number;
        }

        /** Makes the fact at a place be gone; how many are gone by that. */
        int removeFact(int at) {
            int before = facts.total;
            facts.drop(at);
            settle(1 << at / OF_KIND);
            return before - facts.total;
        }

        /** Finds matches anew and drops facts that nothing holds, till nothing changes; changed has a bit a kind. */
        void settle(int changed) {
            int bits = changed;
            // each round but the last drops a fact
            for (int round = 0; bits != 0 && round <= FACTS; round++) {
                for (int r = 0; r < RULES; r++) {
                    // the matches of a rule are made by facts of the kinds of its conditions alone
                    if (rules[r].on && (rules[r].conditions.kindBits & bits) != 0) {
                        matches.findAnew(r, rules[r].conditions, facts);
                    }
                }
                bits = dropLoose();
            }
        }

        /** Drops the facts that are neither STATED nor SUPPORTED; the bits of their kinds. */
        int dropLoose() {
            int bits = 0;
            for (int at = 0; at < FACTS; at++) {
                if (facts.number[at] >= 0 && !facts.stated[at] && firstReason(facts.number[at]) < 0) {
                    facts.drop(at);
                    bits |= 1 << at / OF_KIND;
                }
            }
            return bits;
        }

        int fireUpTo(int most) {
            for (int done = 0; done < most; done++) {
                int m = firstWaiting();
                if (m < 0 || m >= MATCHES) {
                    return done;
                }
                int r = m / TUPLES;
                Conditions conditions = rules[r].conditions;
                Actions actions = rules[r].actions;
                remember(m, conditions);
                matches.markFired(m);
                firings[r]++;
                fired++;
                for (int a = 0; a < actions.count; a++) {
                    settle(actions.isRetract(a) ? dropFiring(actions, a, conditions) : tell(m, actions, a));
                }
            }
            return most;
        }

        /** Keeps what the actions need of the match, as it may be gone behind the first of them. */
        private void remember(int m, Conditions conditions) {
            for (int place = 0; place < PLACES; place++) {
                firingFacts[place] = factAt(m, place);
            }
            for (int v = 0; v < VARIABLES; v++) {
                firingValues[v] = variableIn(m, conditions, v);
            }
        }

        /** Does a RETRACT; the bit of the kind of the fact that is gone by it, 0 without one. */
        private int dropFiring(Actions actions, int action, Conditions conditions) {
            int place = conditions.placeFor(actions.conditionOf(action));
            if (place < 0 || place >= PLACES) {
                return 0;
            }
            int at = facts.placeOf(firingFacts[place]);
            if (at < 0) {
                return 0;
            }
            facts.drop(at);
            return 1 << at / OF_KIND;
        }

        /** Does a STATE or a SUPPORT; the bit of the kind of the fact that is new by it, 0 without one. */
        private int tell(int m, Actions actions, int action) {
            boolean isSupport = actions.isSupport(action);
            if (isSupport && !matches.isStillSpent(m)) {
                return 0;
            }
            int expected = facts.next;
            int a = actions.toldValue(action, 0, firingValues);
            int b = actions.toldValue(action, 1, firingValues);
            int c = actions.toldValue(action, 2, firingValues);
            int at = facts.findOrCreate(actions.kindOfTold(action), a, b, c);
            if (at < 0 || at >= FACTS) {
                return 0;
            }
            if (isSupport) {
                matches.support(m, action, facts.number[at]);
            } else {
                facts.stated[at] = true;
            }
            return facts.next == expected ? 0 : 1 << at / OF_KIND;
        }

        int countWaiting() {
            int waiting = 0;
            for (int r = 0; r < RULES; r++) {
                for (int i = 0; i < matches.count[r]; i++) {
                    if (!matches.isSpent(matches.matchAt(r, i))) {
                        waiting++;
                    }
                }
            }
            return waiting;
        }

        /** The first match of the agenda, -1 if it is empty. */
        int firstWaiting() {
            int best = -1;
            for (int r = 0; r < RULES; r++) {
                for (int i = 0; i < matches.count[r]; i++) {
                    int m = matches.matchAt(r, i);
                    // of two that are equal here the one met first stays: the smaller rule, the smaller facts
                    if (!matches.isSpent(m) && (best < 0 || goesAhead(m, best))) {
                        best = m;
                    }
                }
            }
            return best;
        }

        private boolean goesAhead(int m, int other) {
            int more = urgencyOf(m) - urgencyOf(other);
            return more > 0 || (more == 0 && matches.rankOf(m) > matches.rankOf(other));
        }

        private int urgencyOf(int m) {
            return m >= 0 && m < MATCHES ? rules[m / TUPLES].urgency : 0;
        }

        /** The number of the fact at a place in the row of a match, -1 if there is none. */
        int factAt(int m, int place) {
            return facts.numberAt(matches.placeAt(m, place));
        }

        int variableIn(int m, Conditions conditions, int variable) {
            int binder = conditions.binderOf(variable);
            if (binder < 0) {
                return 0;
            }
            int at = matches.placeAt(m, conditions.placeFor(binder / SLOTS));
            return at < 0 ? 0 : facts.valueAt(at, binder % SLOTS);
        }

        int countSupports(int fact) {
            int supports = 0;
            for (int r = 0; r < RULES; r++) {
                for (int i = 0; i < matches.count[r]; i++) {
                    if (matches.supportsFact(matches.matchAt(r, i), fact)) {
                        supports++;
                    }
                }
            }
            return supports;
        }

        /** The smallest rule with a match that SUPPORTS a fact, -1 without one. */
        int firstReason(int fact) {
            for (int r = 0; r < RULES; r++) {
                for (int i = 0; i < matches.count[r]; i++) {
                    if (matches.supportsFact(matches.matchAt(r, i), fact)) {
                        return r;
                    }
                }
            }
            return -1;
        }

        int countUses(int at) {
            int uses = 0;
            for (int r = 0; r < RULES; r++) {
                for (int i = 0; i < matches.count[r]; i++) {
                    if (matches.hasPlace(matches.matchAt(r, i), at)) {
                        uses++;
                    }
                }
            }
            return uses;
        }

        /** Finds the distances of all facts: first those that are 0, then those that are 1, and so on. */
        void findDistances() {
            for (int at = 0; at < FACTS; at++) {
                distances[at] = facts.stated[at] ? 0 : -1;
            }
            boolean more = true;
            for (int d = 1; more && d <= FACTS; d++) {
                more = reach(d);
            }
        }

        /** Gives the distance d to facts without one that a match with nearer facts only SUPPORTS; whether to any. */
        private boolean reach(int d) {
            boolean any = false;
            for (int r = 0; r < RULES; r++) {
                for (int i = 0; i < matches.count[r]; i++) {
                    int m = matches.matchAt(r, i);
                    if (!matches.isSpent(m) || !isNearer(m, d)) {
                        continue;
                    }
                    for (int a = 0; a < ACTIONS; a++) {
                        int at = facts.placeOf(matches.toldBy(m, a));
                        if (at >= 0 && distances[at] < 0) {
                            distances[at] = d;
                            any = true;
                        }
                    }
                }
            }
            return any;
        }

        private boolean isNearer(int m, int d) {
            for (int place = 0; place < PLACES; place++) {
                int at = matches.placeAt(m, place);
                if (at >= 0 && at < FACTS && (distances[at] < 0 || distances[at] >= d)) {
                    return false;
                }
            }
            return true;
        }
    }
}
