import java.util.ArrayList;
import java.util.Collections;
import java.util.Comparator;
import java.util.HashMap;
import java.util.HashSet;
import java.util.List;
import java.util.Map;
import java.util.NoSuchElementException;
import java.util.Set;
import java.util.TreeMap;
import java.util.TreeSet;

/** The document once more, word by word and without care for speed; the random runs compare RuleForge with it. */
final class PlainForge {
    static final class Condition {
        int sort;
        int kind;
        int n;
        final int[] test = new int[3];
        final int[] v = new int[3];
    }

    static final class Action {
        int sort;
        int kind;
        int condition;
        final int[] variable = {-1, -1, -1};
        final int[] plus = new int[3];
    }

    static final class Rule {
        int urgency;
        boolean on;
        final List<Condition> conditions = new ArrayList<>();
        final List<Action> actions = new ArrayList<>();
    }

    static final class Fact {
        int number;
        int kind;
        int[] value;
        boolean stated;
    }

    static final class Match {
        int rule;
        List<Integer> row;
        Map<Integer, Integer> variables;
        boolean fired;
        Set<Integer> supported = new TreeSet<>();
    }

    private List<Rule> rules = new ArrayList<>();
    private TreeMap<Integer, Fact> facts = new TreeMap<>();
    private List<Match> found = new ArrayList<>();
    private int[] firings = new int[6];
    private int next = 0;

    // ---- building rules

    public int addRule(int urgency) {
        argument(urgency >= -9 && urgency <= 9);
        state(rules.size() < 6);
        Rule rule = new Rule();
        rule.urgency = urgency;
        rules.add(rule);
        return rules.size() - 1;
    }

    public int addCondition(int rule, int sort, int kind, int n) {
        Rule r = rule(rule);
        argument(sort >= 0 && sort <= 2 && kind >= 0 && kind <= 7 && n >= 1 && n <= 6);
        long each = r.conditions.stream().filter(c -> c.sort == 0).count();
        state(!r.on && r.conditions.size() < 4 && !(sort == 0 && each == 3));
        Condition c = new Condition();
        c.sort = sort;
        c.kind = kind;
        c.n = n;
        r.conditions.add(c);
        return r.conditions.size() - 1;
    }

    public int setTest(int rule, int condition, int slot, int test, int v) {
        Rule r = rule(rule);
        index(condition >= 0 && condition < r.conditions.size());
        argument(slot >= 0 && slot <= 2 && test >= 0 && test <= 7);
        argument(test < 4 ? v >= -999 && v <= 999 : v >= 0 && v <= 5);
        state(!r.on);
        Condition c = r.conditions.get(condition);
        int old = c.test[slot];
        c.test[slot] = test;
        c.v[slot] = v;
        return old;
    }

    public int addTold(int rule, boolean isSupport, int kind) {
        Rule r = rule(rule);
        argument(kind >= 0 && kind <= 7);
        state(!r.on && r.actions.size() < 3);
        Action a = new Action();
        a.sort = isSupport ? 1 : 0;
        a.kind = kind;
        r.actions.add(a);
        return r.actions.size() - 1;
    }

    public int setValue(int rule, int action, int slot, int variable, int plus) {
        Rule r = rule(rule);
        index(action >= 0 && action < r.actions.size());
        argument(slot >= 0 && slot <= 2 && variable >= -1 && variable <= 5 && plus >= -999 && plus <= 999);
        Action a = r.actions.get(action);
        state(!r.on && a.sort != 2);
        int old = a.variable[slot];
        a.variable[slot] = variable;
        a.plus[slot] = plus;
        return old;
    }

    public int addRetract(int rule, int condition) {
        Rule r = rule(rule);
        argument(condition >= 0 && condition <= 3);
        state(!r.on && r.actions.size() < 3);
        Action a = new Action();
        a.sort = 2;
        a.condition = condition;
        r.actions.add(a);
        return r.actions.size() - 1;
    }

    public int switchOn(int rule) {
        Rule r = rule(rule);
        state(!r.on && isSound(rule));
        r.on = true;
        settle();
        return matches(rule);
    }

    public int switchOff(int rule) {
        Rule r = rule(rule);
        state(r.on);
        r.on = false;
        int before = facts.size();
        settle();
        return before - facts.size();
    }

    // ---- facts

    public int state(int kind, int a, int b, int c) {
        argument(kind >= 0 && kind <= 7);
        for (int value : new int[] {a, b, c}) {
            argument(value >= -999 && value <= 999);
        }
        Fact fact = like(kind, a, b, c);
        if (fact == null) {
            state(ofKind(kind).size() < 6);
            fact = create(kind, a, b, c);
            fact.stated = true;
            settle();
        }
        fact.stated = true;
        return fact.number;
    }

    public int takeBack(int fact) {
        Fact f = fact(fact);
        state(f.stated);
        int before = facts.size();
        f.stated = false;
        settle();
        return before - facts.size();
    }

    public int retract(int fact) {
        fact(fact);
        int before = facts.size();
        facts.remove(fact);
        settle();
        return before - facts.size();
    }

    public int fire(int most) {
        argument(most >= 1 && most <= 20);
        int done = 0;
        while (done < most && agenda() > 0) {
            fireFirst();
            done++;
        }
        return done;
    }

    // ---- rules, asked

    public int rules() {
        return rules.size();
    }

    public boolean isOn(int rule) {
        return rule(rule).on;
    }

    public boolean isSound(int rule) {
        Rule r = rule(rule);
        Set<Integer> bound = new HashSet<>();
        for (Condition c : r.conditions) {
            for (int slot = 0; slot < 3; slot++) {
                if (c.test[slot] == 4 && c.sort == 0) {
                    bound.add(c.v[slot]);
                } else if (c.test[slot] >= 4 && !bound.contains(c.v[slot])) {
                    return false;
                }
            }
        }
        for (Action a : r.actions) {
            if (a.sort == 2) {
                if (a.condition >= r.conditions.size() || r.conditions.get(a.condition).sort != 0) {
                    return false;
                }
                continue;
            }
            for (int v : a.variable) {
                if (v != -1 && !bound.contains(v)) {
                    return false;
                }
            }
        }
        return !r.conditions.isEmpty();
    }

    public int urgency(int rule) {
        return rule(rule).urgency;
    }

    public int conditions(int rule) {
        return rule(rule).conditions.size();
    }

    public int actions(int rule) {
        return rule(rule).actions.size();
    }

    public int candidates(int rule, int condition) {
        Rule r = rule(rule);
        index(condition >= 0 && condition < r.conditions.size());
        Condition c = r.conditions.get(condition);
        int have = 0;
        for (Fact f : ofKind(c.kind)) {
            boolean all = true;
            for (int slot = 0; slot < 3; slot++) {
                all &= c.test[slot] != 1 || f.value[slot] == c.v[slot];
                all &= c.test[slot] != 2 || f.value[slot] < c.v[slot];
                all &= c.test[slot] != 3 || f.value[slot] > c.v[slot];
            }
            have += all ? 1 : 0;
        }
        return have;
    }

    public int firings(int rule) {
        rule(rule);
        return firings[rule];
    }

    // ---- facts, asked

    public int facts() {
        return facts.size();
    }

    public int next() {
        return next;
    }

    public boolean isThere(int fact) {
        return facts.containsKey(fact);
    }

    public int find(int kind, int a, int b, int c) {
        Fact fact = like(kind, a, b, c);
        return fact == null ? -1 : fact.number;
    }

    public int kindOf(int fact) {
        return fact(fact).kind;
    }

    public int valueOf(int fact, int slot) {
        Fact f = fact(fact);
        index(slot >= 0 && slot <= 2);
        return f.value[slot];
    }

    public boolean isStated(int fact) {
        return fact(fact).stated;
    }

    public int supports(int fact) {
        fact(fact);
        return supporting(fact).size();
    }

    public int because(int fact) {
        fact(fact);
        return supporting(fact).stream().mapToInt(m -> m.rule).min().orElse(-1);
    }

    public int distance(int fact) {
        fact(fact);
        Map<Integer, Integer> distances = new HashMap<>();
        for (Fact f : facts.values()) {
            if (f.stated) {
                distances.put(f.number, 0);
            }
        }
        boolean changed = true;
        while (changed) {
            changed = false;
            for (Fact f : facts.values()) {
                for (Match m : supporting(f.number)) {
                    if (!distances.keySet().containsAll(m.row)) {
                        continue;
                    }
                    int far = 1 + m.row.stream().mapToInt(distances::get).max().orElse(0);
                    if (distances.getOrDefault(f.number, Integer.MAX_VALUE) > far) {
                        distances.put(f.number, far);
                        changed = true;
                    }
                }
            }
        }
        return distances.getOrDefault(fact, -1);
    }

    public int uses(int fact) {
        fact(fact);
        return (int) found.stream().filter(m -> m.row.contains(fact)).count();
    }

    // ---- matches and the agenda, asked

    public int matches(int rule) {
        rule(rule);
        return matchesOf(rule).size();
    }

    public int factOf(int rule, int match, int place) {
        Match m = match(rule, match);
        index(place >= 0 && place < m.row.size());
        return m.row.get(place);
    }

    public boolean hasFired(int rule, int match) {
        return match(rule, match).fired;
    }

    public int variableOf(int rule, int match, int variable) {
        Match m = match(rule, match);
        index(variable >= 0 && variable <= 5);
        return m.variables.getOrDefault(variable, 0);
    }

    public int agenda() {
        return waiting().size();
    }

    public int nextRule() {
        return agenda() == 0 ? -1 : first().rule;
    }

    public int nextFact(int place) {
        if (agenda() == 0 || place < 0 || place >= first().row.size()) {
            return -1;
        }
        return first().row.get(place);
    }

    public int fired() {
        int sum = 0;
        for (int n : firings) {
            sum += n;
        }
        return sum;
    }

    public double meanSupports() {
        double sum = 0;
        for (int number : facts.keySet()) {
            sum += supports(number);
        }
        return facts.isEmpty() ? 0 : sum / facts.size();
    }

    // ---- what would be

    public int factsBehind(int most) {
        argument(most >= 1 && most <= 20);
        PlainForge other = copy();
        other.fire(most);
        return other.facts();
    }

    public int firingsToRest(int most) {
        argument(most >= 1 && most <= 20);
        PlainForge other = copy();
        int done = other.fire(most);
        return other.agenda() == 0 ? done : -1;
    }

    public int wouldGo(int fact) {
        fact(fact);
        return copy().retract(fact);
    }

    public boolean wouldHold(int kind, int a, int b, int c, int most) {
        argument(most >= 1 && most <= 20);
        PlainForge other = copy();
        other.fire(most);
        return other.find(kind, a, b, c) >= 0;
    }

    public long digest() {
        List<Long> numbers = new ArrayList<>();
        add(numbers, rules(), facts(), next(), agenda(), nextRule(), nextFact(0), nextFact(1), nextFact(2), fired());
        for (int r = 0; r < rules(); r++) {
            add(numbers, isOn(r) ? 1 : 0, isSound(r) ? 1 : 0, urgency(r), conditions(r), actions(r), firings(r));
            add(numbers, matches(r));
            for (Match m : matchesOf(r)) {
                for (int fact : m.row) {
                    add(numbers, fact);
                }
                add(numbers, m.fired ? 1 : 0);
            }
        }
        for (int f : facts.keySet()) {
            add(numbers, f, kindOf(f), valueOf(f, 0), valueOf(f, 1), valueOf(f, 2), isStated(f) ? 1 : 0);
            add(numbers, supports(f), because(f), distance(f), uses(f));
        }
        long d = 58028;
        for (long x : numbers) {
            d = d * 31 + x;
        }
        return d;
    }

    private static void add(List<Long> numbers, int... more) {
        for (int x : more) {
            numbers.add((long) x);
        }
    }

    // ---- firing

    private void fireFirst() {
        Match m = first();
        m.fired = true;
        firings[m.rule]++;
        for (Action a : rules.get(m.rule).actions) {
            if (a.sort == 2) {
                int place = 0;
                for (int c = 0; c < a.condition; c++) {
                    place += rules.get(m.rule).conditions.get(c).sort == 0 ? 1 : 0;
                }
                if (facts.remove(m.row.get(place)) != null) {
                    settle();
                }
                continue;
            }
            // a match that comes to be again is another object, so that this one is not among those found
            if (a.sort == 1 && !found.contains(m)) {
                continue;
            }
            int[] value = new int[3];
            for (int slot = 0; slot < 3; slot++) {
                int sum = a.plus[slot] + (a.variable[slot] < 0 ? 0 : m.variables.get(a.variable[slot]));
                value[slot] = sum < -999 ? -999 : sum > 999 ? 999 : sum;
            }
            Fact fact = like(a.kind, value[0], value[1], value[2]);
            boolean isNew = fact == null;
            if (isNew && ofKind(a.kind).size() == 6) {
                continue;
            }
            if (isNew) {
                fact = create(a.kind, value[0], value[1], value[2]);
            }
            if (a.sort == 0) {
                fact.stated = true;
            } else {
                m.supported.add(fact.number);
            }
            settle();
        }
    }

    private List<Match> waiting() {
        List<Match> list = new ArrayList<>();
        for (Match m : found) {
            if (!m.fired) {
                list.add(m);
            }
        }
        return list;
    }

    private Match first() {
        Comparator<Match> byUrgency = Comparator.comparing(m -> -rules.get(m.rule).urgency);
        Comparator<Match> byRow = (m, o) -> -compareRows(falling(m.row), falling(o.row));
        Comparator<Match> byRule = Comparator.comparing(m -> m.rule);
        Comparator<Match> byFacts = (m, o) -> compareRows(m.row, o.row);
        return Collections.min(waiting(), byUrgency.thenComparing(byRow).thenComparing(byRule).thenComparing(byFacts));
    }

    private static List<Integer> falling(List<Integer> row) {
        List<Integer> list = new ArrayList<>(row);
        list.sort(Comparator.reverseOrder());
        return list;
    }

    private static int compareRows(List<Integer> a, List<Integer> b) {
        for (int i = 0; i < a.size() && i < b.size(); i++) {
            if (!a.get(i).equals(b.get(i))) {
                return a.get(i) < b.get(i) ? -1 : 1;
            }
        }
        return Integer.compare(a.size(), b.size());
    }

    // ---- finding

    private void settle() {
        while (true) {
            findAnew();
            Fact loose = null;
            for (Fact f : facts.values()) {
                if (loose == null && !f.stated && supporting(f.number).isEmpty()) {
                    loose = f;
                }
            }
            if (loose == null) {
                return;
            }
            facts.remove(loose.number);
        }
    }

    private void findAnew() {
        List<Match> before = found;
        found = new ArrayList<>();
        for (int r = 0; r < rules.size(); r++) {
            if (rules.get(r).on) {
                search(r, 0, new ArrayList<>(), new HashMap<>());
            }
        }
        for (int i = 0; i < found.size(); i++) {
            for (Match old : before) {
                if (old.rule == found.get(i).rule && old.row.equals(found.get(i).row)) {
                    found.set(i, old);
                    break;
                }
            }
        }
    }

    private void search(int rule, int condition, List<Integer> row, Map<Integer, Integer> variables) {
        List<Condition> conditions = rules.get(rule).conditions;
        if (condition == conditions.size()) {
            Match m = new Match();
            m.rule = rule;
            m.row = row;
            m.variables = variables;
            found.add(m);
            return;
        }
        Condition c = conditions.get(condition);
        if (c.sort == 0) {
            for (Fact f : ofKind(c.kind)) {
                Map<Integer, Integer> more = new HashMap<>(variables);
                if (fulfils(f, c, more, true)) {
                    List<Integer> longer = new ArrayList<>(row);
                    longer.add(f.number);
                    search(rule, condition + 1, longer, more);
                }
            }
            return;
        }
        int have = 0;
        for (Fact f : ofKind(c.kind)) {
            have += fulfils(f, c, variables, false) ? 1 : 0;
        }
        if (c.sort == 1 ? have == 0 : have >= c.n) {
            search(rule, condition + 1, row, variables);
        }
    }

    private static boolean fulfils(Fact f, Condition c, Map<Integer, Integer> variables, boolean binds) {
        for (int slot = 0; slot < 3; slot++) {
            int value = f.value[slot];
            int v = c.v[slot];
            if (c.test[slot] == 4 && binds && !variables.containsKey(v)) {
                variables.put(v, value);
            }
            Integer of = variables.get(v);
            if (c.test[slot] >= 4 && of == null) {
                throw new NoSuchElementException("not SOUND");
            }
            boolean ok = switch (c.test[slot]) {
                case 0 -> true;
                case 1 -> value == v;
                case 2 -> value < v;
                case 3 -> value > v;
                case 4 -> value == of;
                case 5 -> value < of;
                case 6 -> value > of;
                default -> value != of;
            };
            if (!ok) {
                return false;
            }
        }
        return true;
    }

    // ---- what the calls need

    private List<Match> matchesOf(int rule) {
        List<Match> list = new ArrayList<>();
        for (Match m : found) {
            if (m.rule == rule) {
                list.add(m);
            }
        }
        list.sort((m, o) -> compareRows(m.row, o.row));
        return list;
    }

    private List<Match> supporting(int fact) {
        List<Match> list = new ArrayList<>();
        for (Match m : found) {
            if (m.supported.contains(fact)) {
                list.add(m);
            }
        }
        return list;
    }

    private List<Fact> ofKind(int kind) {
        List<Fact> list = new ArrayList<>();
        for (Fact f : facts.values()) {
            if (f.kind == kind) {
                list.add(f);
            }
        }
        return list;
    }

    private Fact like(int kind, int a, int b, int c) {
        for (Fact f : ofKind(kind)) {
            if (f.value[0] == a && f.value[1] == b && f.value[2] == c) {
                return f;
            }
        }
        return null;
    }

    private Fact create(int kind, int a, int b, int c) {
        Fact f = new Fact();
        f.number = next++;
        f.kind = kind;
        f.value = new int[] {a, b, c};
        facts.put(f.number, f);
        return f;
    }

    private PlainForge copy() {
        PlainForge other = new PlainForge();
        other.rules = rules;
        other.next = next;
        other.firings = firings.clone();
        for (Fact f : facts.values()) {
            Fact g = new Fact();
            g.number = f.number;
            g.kind = f.kind;
            g.value = f.value;
            g.stated = f.stated;
            other.facts.put(g.number, g);
        }
        for (Match m : found) {
            Match n = new Match();
            n.rule = m.rule;
            n.row = m.row;
            n.variables = m.variables;
            n.fired = m.fired;
            n.supported = new TreeSet<>(m.supported);
            other.found.add(n);
        }
        return other;
    }

    private Rule rule(int rule) {
        index(rule >= 0 && rule < rules.size());
        return rules.get(rule);
    }

    private Fact fact(int fact) {
        index(facts.containsKey(fact));
        return facts.get(fact);
    }

    private Match match(int rule, int match) {
        rule(rule);
        index(match >= 0 && match < matchesOf(rule).size());
        return matchesOf(rule).get(match);
    }

    private static void index(boolean ok) {
        if (!ok) {
            throw new IndexOutOfBoundsException();
        }
    }

    private static void argument(boolean ok) {
        if (!ok) {
            throw new IllegalArgumentException();
        }
    }

    private static void state(boolean ok) {
        if (!ok) {
            throw new IllegalStateException();
        }
    }
}
