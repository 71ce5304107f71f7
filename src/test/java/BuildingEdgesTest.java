/**
 * Promises 1 to 9 at their edges: the last value in bounds and the first that is not, nothing there yet and as
 * many as may be, and each refused call. Each test bears the sentence of the document that it holds to.
 */
public final class BuildingEdgesTest {
    private static final int EACH = 0;
    private static final int NONE = 1;
    private static final int AT_LEAST = 2;
    private static final int LEAST = Integer.MIN_VALUE;
    private static final int MOST = Integer.MAX_VALUE;

    private static final Check check = new Check();

    public static void main(String[] args) {
        promise1NothingThereYet();
        promise1NoRuleYet();
        promise1NoFactYet();
        promise2Urgency();
        promise2SixRules();
        promise2Off();
        promise3NoSuchRule();
        promise3OutOfBounds();
        promise3InBounds();
        promise3OnOrFull();
        promise3WhichFirst();
        promise4NoSuchRuleOrCondition();
        promise4OutOfBounds();
        promise4Numbers();
        promise4Variables();
        promise4On();
        promise4WhichFirst();
        promise4WhatWasThere();
        promise5NoSuchRule();
        promise5Kinds();
        promise5OnOrFull();
        promise5AllZero();
        promise6NoSuchRuleOrAction();
        promise6OutOfBounds();
        promise6OnOrRetract();
        promise6WhichFirst();
        promise6WhatWasThere();
        promise6Sums();
        promise7NoSuchRule();
        promise7Conditions();
        promise7OnOrFull();
        promise8NoSuchRule();
        promise8OnOrNotSound();
        promise8HowManyMatches();
        promise8BoundAhead();
        promise8BoundForActions();
        promise8RetractNeedsEach();
        promise8WhileOnItCannotBeChanged();
        promise9NoSuchRule();
        promise9Off();
        promise9HowManyAreGone();
        promise9NoMatches();
        check.end();
    }

    /** "Creates an engine without rules and facts." */
    private static void promise1NothingThereYet() {
        RuleForge x = new RuleForge();
        check.same("1: rules()", x.rules(), 0);
        check.same("1: facts()", x.facts(), 0);
        check.same("1: next()", x.next(), 0);
        check.same("1: agenda()", x.agenda(), 0);
        check.same("1: nextRule()", x.nextRule(), -1);
        check.same("1: fired()", x.fired(), 0);
        check.same("1: meanSupports()", x.meanSupports(), 0.0);
        for (int i = -1; i <= 3; i++) {
            check.same("1: nextFact(" + i + ")", x.nextFact(i), -1);
            check.isNotSo("1: isThere(" + i + ")", x.isThere(i));
        }
        for (int kind = 0; kind < 8; kind++) {
            check.same("1: find in kind " + kind, x.find(kind, 0, 0, 0), -1);
            check.isNotSo("1: wouldHold in kind " + kind, x.wouldHold(kind, 0, 0, 0, 20));
        }
        for (int most : new int[] {1, 20}) {
            check.same("1: fire(" + most + ")", x.fire(most), 0);
            check.same("1: factsBehind(" + most + ")", x.factsBehind(most), 0);
            check.same("1: firingsToRest(" + most + ")", x.firingsToRest(most), 0);
        }
        check.same("1: the first rule", x.addRule(0), 0);
        check.same("1: the first fact", x.state(0, 0, 0, 0), 0);
    }

    /** "Creates an engine without rules and facts.": each call with a rule is refused, other arguments right or not. */
    private static void promise1NoRuleYet() {
        RuleForge x = new RuleForge();
        for (int i : new int[] {0, -1}) {
            check.refusesIndex("1: addCondition", x, () -> x.addCondition(0, i, 0, 1));
            check.refusesIndex("1: setTest", x, () -> x.setTest(0, 0, i, 0, 0));
            check.refusesIndex("1: addTold", x, () -> x.addTold(0, true, i));
            check.refusesIndex("1: setValue", x, () -> x.setValue(0, 0, i, 0, 0));
            check.refusesIndex("1: addRetract", x, () -> x.addRetract(0, i));
            check.refusesIndex("1: switchOn", x, () -> x.switchOn(i));
            check.refusesIndex("1: switchOff", x, () -> x.switchOff(i));
            check.refusesIndex("1: isOn", x, () -> x.isOn(i));
            check.refusesIndex("1: isSound", x, () -> x.isSound(i));
            check.refusesIndex("1: urgency", x, () -> x.urgency(i));
            check.refusesIndex("1: conditions", x, () -> x.conditions(i));
            check.refusesIndex("1: actions", x, () -> x.actions(i));
            check.refusesIndex("1: candidates", x, () -> x.candidates(i, 0));
            check.refusesIndex("1: firings", x, () -> x.firings(i));
            check.refusesIndex("1: matches", x, () -> x.matches(i));
            check.refusesIndex("1: factOf", x, () -> x.factOf(i, 0, 0));
            check.refusesIndex("1: hasFired", x, () -> x.hasFired(i, 0));
            check.refusesIndex("1: variableOf", x, () -> x.variableOf(i, 0, 0));
        }
        check.same("1: still none", x.rules(), 0);
    }

    /** "Creates an engine without rules and facts.": each call with a fact is refused. */
    private static void promise1NoFactYet() {
        RuleForge x = new RuleForge();
        for (int i : new int[] {0, -1}) {
            check.refusesIndex("1: takeBack", x, () -> x.takeBack(i));
            check.refusesIndex("1: retract", x, () -> x.retract(i));
            check.refusesIndex("1: kindOf", x, () -> x.kindOf(i));
            check.refusesIndex("1: valueOf", x, () -> x.valueOf(i, 0));
            check.refusesIndex("1: isStated", x, () -> x.isStated(i));
            check.refusesIndex("1: supports", x, () -> x.supports(i));
            check.refusesIndex("1: because", x, () -> x.because(i));
            check.refusesIndex("1: distance", x, () -> x.distance(i));
            check.refusesIndex("1: uses", x, () -> x.uses(i));
            check.refusesIndex("1: wouldGo", x, () -> x.wouldGo(i));
        }
        check.same("1: still none", x.facts() + x.next(), 0);
    }

    /** "Throws `IllegalArgumentException` if urgency is not -9 to 9" */
    private static void promise2Urgency() {
        for (int urgency = -9; urgency <= 9; urgency++) {
            RuleForge x = new RuleForge();
            check.same("2: urgency " + urgency, x.addRule(urgency), 0);
            check.same("2: urgency() of " + urgency, x.urgency(0), urgency);
        }
        RuleForge x = new RuleForge();
        for (int urgency : new int[] {-10, 10, -11, 11, -999, 999, LEAST, MOST}) {
            check.refusesArgument("2: urgency " + urgency, x, () -> x.addRule(urgency));
        }
        check.same("2: no rule was added", x.rules(), 0);
        check.same("2: the first one", x.addRule(9), 0);
        check.refusesArgument("2: urgency 10 behind a rule", x, () -> x.addRule(10));
        check.same("2: the first one is as it was", x.urgency(0), 9);
        check.same("2: the second one", x.addRule(-9), 1);
    }

    /** "Throws `IllegalStateException` if there are 6"; "If several exceptions apply, the one that is named first". */
    private static void promise2SixRules() {
        RuleForge x = new RuleForge();
        for (int r = 0; r < 6; r++) {
            check.same("2: its number", x.addRule(r), r);
        }
        check.refusesState("2: a seventh", x, () -> x.addRule(0));
        check.refusesState("2: a seventh of -9", x, () -> x.addRule(-9));
        check.refusesState("2: a seventh of 9", x, () -> x.addRule(9));
        check.refusesArgument("2: the urgency comes first", x, () -> x.addRule(-10));
        check.refusesArgument("2: the urgency comes first", x, () -> x.addRule(10));
        check.same("2: rules()", x.rules(), 6);
        for (int r = 0; r < 6; r++) {
            check.same("2: urgency() is as it was", x.urgency(r), r);
        }
    }

    /** "Adds a rule, off, without CONDITIONS and ACTIONS." */
    private static void promise2Off() {
        RuleForge x = new RuleForge();
        x.state(0, 0, 0, 0);
        for (int r = 0; r < 6; r++) {
            int rule = x.addRule(0);
            check.isNotSo("2: isOn()", x.isOn(rule));
            check.isNotSo("2: isSound()", x.isSound(rule));
            check.same("2: conditions()", x.conditions(rule), 0);
            check.same("2: actions()", x.actions(rule), 0);
            check.same("2: firings()", x.firings(rule), 0);
            check.same("2: matches()", x.matches(rule), 0);
            x.addCondition(rule, EACH, 0, 1);
            x.addTold(rule, true, 1);
            x.switchOn(rule);
        }
    }

    /** "Throws `IndexOutOfBoundsException` if there is no such rule", for any number of rules. */
    private static void promise3NoSuchRule() {
        for (int rules = 0; rules <= 6; rules++) {
            RuleForge x = new RuleForge();
            for (int r = 0; r < rules; r++) {
                x.addRule(0);
            }
            for (int rule : new int[] {-1, rules, rules + 1, 6, LEAST, MOST}) {
                check.refusesIndex("3: rule " + rule, x, () -> x.addCondition(rule, EACH, 0, 1));
            }
            for (int r = 0; r < rules; r++) {
                check.same("3: rule " + r + " of " + rules, x.addCondition(r, EACH, 0, 1), 0);
            }
        }
    }

    /** "Throws `IllegalArgumentException` if sort is not 0 to 2, kind is not 0 to 7, or n is not 1 to 6" */
    private static void promise3OutOfBounds() {
        RuleForge x = new RuleForge();
        x.addRule(0);
        for (int sort = 0; sort <= 2; sort++) {
            int s = sort;
            for (int wrong : new int[] {-1, 8, 9, LEAST, MOST}) {
                check.refusesArgument("3: kind " + wrong, x, () -> x.addCondition(0, s, wrong, 1));
            }
            // n is of use for AT LEAST alone, but its bounds hold for all three
            for (int wrong : new int[] {0, 7, -1, 8, LEAST, MOST}) {
                check.refusesArgument("3: n " + wrong, x, () -> x.addCondition(0, s, 0, wrong));
            }
        }
        for (int wrong : new int[] {-1, 3, 4, LEAST, MOST}) {
            check.refusesArgument("3: sort " + wrong, x, () -> x.addCondition(0, wrong, 7, 6));
        }
        check.same("3: none was added", x.conditions(0), 0);
        check.same("3: the first", x.addCondition(0, EACH, 0, 1), 0);
    }

    /** Sorts 0 to 2, kinds 0 to 7 and n 1 to 6, each with 0 to 6 facts of its kind: all do what they say. */
    private static void promise3InBounds() {
        for (int kind = 0; kind < 8; kind++) {
            for (int n = 1; n <= 6; n++) {
                RuleForge x = new RuleForge();
                for (int sort = EACH; sort <= AT_LEAST; sort++) {
                    x.addRule(0);
                    check.same("3: kind " + kind + ", n " + n, x.addCondition(sort, sort, kind, n), 0);
                    x.switchOn(sort);
                }
                for (int facts = 0; facts <= 6; facts++) {
                    String what = " of kind " + kind + ", n " + n + ", with " + facts;
                    check.same("3: EACH" + what, x.matches(EACH), facts);
                    check.same("3: NONE" + what, x.matches(NONE), facts == 0 ? 1 : 0);
                    check.same("3: AT LEAST" + what, x.matches(AT_LEAST), facts >= n ? 1 : 0);
                    if (facts < 6) {
                        x.state((kind + 1) % 8, facts, 0, 0);
                        x.state(kind, facts, 0, 0);
                    }
                }
            }
        }
    }

    /** "Throws `IllegalStateException` if the rule is on, it has 4 CONDITIONS, or 3 that are EACH, and this is one" */
    private static void promise3OnOrFull() {
        for (int each = 0; each <= 3; each++) {
            RuleForge x = new RuleForge();
            x.addRule(0);
            for (int c = 0; c < 4; c++) {
                int sort = c < each ? EACH : c % 2 == 0 ? NONE : AT_LEAST;
                if (c == 3 && each == 3) {
                    check.refusesState("3: a fourth EACH", x, () -> x.addCondition(0, EACH, 5, 1));
                }
                check.same("3: its number", x.addCondition(0, sort, c, 1), c);
                check.same("3: conditions()", x.conditions(0), c + 1);
            }
            for (int sort = EACH; sort <= AT_LEAST; sort++) {
                int s = sort;
                check.refusesState("3: a fifth, sort " + s, x, () -> x.addCondition(0, s, 5, 1));
            }
            check.same("3: conditions()", x.conditions(0), 4);
        }
        RuleForge x = new RuleForge();
        x.addRule(0);
        for (int c = 0; c < 3; c++) {
            check.same("3: three EACH", x.addCondition(0, EACH, 0, 1), c);
        }
        check.refusesState("3: a fourth EACH", x, () -> x.addCondition(0, EACH, 0, 1));
        check.same("3: but AT LEAST", x.addCondition(0, AT_LEAST, 0, 1), 3);
        RuleForge y = new RuleForge();
        y.addRule(0);
        y.addCondition(0, NONE, 0, 1);
        y.switchOn(0);
        for (int sort = EACH; sort <= AT_LEAST; sort++) {
            int s = sort;
            check.refusesState("3: on, sort " + s, y, () -> y.addCondition(0, s, 0, 1));
        }
        y.switchOff(0);
        check.same("3: off again", y.addCondition(0, EACH, 0, 1), 1);
    }

    /** "If several exceptions apply, the one that is named first is thrown." */
    private static void promise3WhichFirst() {
        RuleForge x = new RuleForge();
        for (int r = 0; r < 4; r++) {
            x.addRule(0);
        }
        x.addCondition(1, EACH, 0, 1);
        x.switchOn(1);
        for (int c = 0; c < 4; c++) {
            x.addCondition(2, NONE, 0, 1);
        }
        for (int c = 0; c < 3; c++) {
            x.addCondition(3, EACH, 0, 1);
        }
        int[][] wrong = {{3, 0, 1}, {-1, 0, 1}, {0, 8, 1}, {0, -1, 1}, {0, 0, 0}, {0, 0, 7}, {3, 8, 7}, {-1, -1, 0}};
        for (int[] w : wrong) {
            for (int rule = 0; rule < 4; rule++) {
                int r = rule;
                check.refusesArgument("3: an argument, rule " + r, x, () -> x.addCondition(r, w[0], w[1], w[2]));
            }
            check.refusesIndex("3: no rule, an argument", x, () -> x.addCondition(4, w[0], w[1], w[2]));
            check.refusesIndex("3: no rule, an argument", x, () -> x.addCondition(-1, w[0], w[1], w[2]));
        }
    }

    /** "Throws `IndexOutOfBoundsException` if there is no such rule, or no such CONDITION of it" */
    private static void promise4NoSuchRuleOrCondition() {
        RuleForge x = new RuleForge();
        for (int r = 0; r < 6; r++) {
            x.addRule(0);
            for (int c = 0; c < Math.min(r, 4); c++) {
                x.addCondition(r, NONE, c, 1);
            }
        }
        for (int rule : new int[] {-1, 6, 7, LEAST, MOST}) {
            check.refusesIndex("4: rule " + rule, x, () -> x.setTest(rule, 0, 0, 0, 0));
        }
        for (int r = 0; r < 6; r++) {
            int rule = r;
            int has = Math.min(r, 4);
            for (int condition : new int[] {-1, has, has + 1, 4, LEAST, MOST}) {
                check.refusesIndex("4: condition " + condition + " of " + has, x,
                    () -> x.setTest(rule, condition, 0, 0, 0));
            }
            for (int c = 0; c < has; c++) {
                check.same("4: condition " + c + " of " + has, x.setTest(r, c, 2, 1, c), 0);
            }
        }
    }

    /** "Throws `IllegalArgumentException` if slot is not 0 to 2, test is not 0 to 7, or v is not -999 to 999, or .." */
    private static void promise4OutOfBounds() {
        RuleForge x = new RuleForge();
        x.addRule(0);
        x.addCondition(0, EACH, 0, 1);
        for (int slot : new int[] {-1, 3, 4, LEAST, MOST}) {
            check.refusesArgument("4: slot " + slot, x, () -> x.setTest(0, 0, slot, 0, 0));
        }
        for (int test : new int[] {-1, 8, 9, LEAST, MOST}) {
            check.refusesArgument("4: test " + test, x, () -> x.setTest(0, 0, 0, test, 0));
        }
        for (int t = 0; t <= 7; t++) {
            int test = t;
            int least = t < 4 ? -999 : 0;
            int most = t < 4 ? 999 : 5;
            for (int v : new int[] {least - 1, most + 1, -1000, 1000, LEAST, MOST}) {
                check.refusesArgument("4: v " + v + " of test " + t, x, () -> x.setTest(0, 0, 1, test, v));
            }
            check.same("4: slot 0, the least v", x.setTest(0, 0, 0, t, least), t == 0 ? 0 : t - 1);
            check.same("4: slot 2, the greatest v", x.setTest(0, 0, 2, t, most), t == 0 ? 0 : t - 1);
        }
        for (int v : new int[] {-999, 999, 6, -1}) {
            check.refusesArgument("4: a number for a variable", x, () -> x.setTest(0, 0, 1, 4, v));
            check.same("4: but fine for test 3", x.setTest(0, 0, 1, 3, v), v == -999 ? 0 : 3);
        }
        check.same("4: slot 1 has test 3", x.setTest(0, 0, 1, 0, 0), 3);
    }

    /** "0, any value fulfils it; 1, the value is v; 2, it is less than v; 3, it is more than v", up to the last v. */
    private static void promise4Numbers() {
        int[] values = {-999, -998, -1, 0, 1, 998};
        for (int slot = 0; slot < 3; slot++) {
            RuleForge x = new RuleForge();
            for (int v : values) {
                x.state(3, slot == 0 ? v : 0, slot == 1 ? v : 0, slot == 2 ? v : 0);
            }
            x.addRule(0);
            x.addCondition(0, EACH, 3, 1);
            for (int v : new int[] {-999, -998, -997, -2, -1, 0, 1, 2, 997, 998, 999}) {
                for (int test = 0; test <= 3; test++) {
                    int due = 0;
                    for (int value : values) {
                        boolean is = test == 0 || test == 1 && value == v || test == 2 && value < v
                            || test == 3 && value > v;
                        due += is ? 1 : 0;
                    }
                    x.setTest(0, 0, slot, test, v);
                    check.same("4: test " + test + " of " + v, x.switchOn(0), due);
                    x.switchOff(0);
                }
            }
        }
    }

    /** "4, it is that of the variable v; 5, it is less than that; 6, it is more than that; 7, it is not that." */
    private static void promise4Variables() {
        int[] values = {-999, -998, 0, 1, 998, 999};
        for (int variable = 0; variable <= 5; variable++) {
            RuleForge x = new RuleForge();
            for (int v : values) {
                x.state(1, v, 0, 0);
                x.state(2, 0, 0, v);
            }
            x.addRule(0);
            x.addCondition(0, EACH, 1, 1);
            x.addCondition(0, EACH, 2, 1);
            x.setTest(0, 0, 0, 4, variable);
            int[] due = {6, 15, 15, 30};
            for (int test = 4; test <= 7; test++) {
                x.setTest(0, 1, 2, test, variable);
                check.same("4: test " + test + " of variable " + variable, x.switchOn(0), due[test - 4]);
                x.switchOff(0);
            }
        }
    }

    /** "Throws `IllegalStateException` if the rule is on" */
    private static void promise4On() {
        RuleForge x = new RuleForge();
        x.addRule(0);
        x.addCondition(0, EACH, 0, 1);
        x.setTest(0, 0, 1, 3, 7);
        x.switchOn(0);
        x.state(0, 0, 8, 0);
        x.state(0, 0, 7, 0);
        for (int test = 0; test <= 7; test++) {
            int t = test;
            check.refusesState("4: on, test " + t, x, () -> x.setTest(0, 0, 1, t, 5));
        }
        check.refusesState("4: on, the test that is there", x, () -> x.setTest(0, 0, 1, 3, 7));
        check.same("4: one is more than 7", x.candidates(0, 0), 1);
        x.switchOff(0);
        check.same("4: off, the test is as it was", x.setTest(0, 0, 1, 2, 8), 3);
        check.same("4: one is less than 8", x.candidates(0, 0), 1);
    }

    /** "If several exceptions apply, the one that is named first is thrown." */
    private static void promise4WhichFirst() {
        RuleForge x = new RuleForge();
        x.addRule(0);
        x.addCondition(0, EACH, 0, 1);
        x.addRule(0);
        x.addCondition(1, EACH, 0, 1);
        x.switchOn(1);
        int[][] wrong = {{-1, 0, 0}, {3, 0, 0}, {0, -1, 0}, {0, 8, 0}, {0, 0, 1000}, {0, 0, -1000}, {0, 4, 6},
            {0, 7, -1}, {3, 8, 1000}};
        for (int[] w : wrong) {
            for (int rule = 0; rule < 2; rule++) {
                int r = rule;
                check.refusesArgument("4: an argument, on or off", x, () -> x.setTest(r, 0, w[0], w[1], w[2]));
                check.refusesIndex("4: no condition", x, () -> x.setTest(r, 1, w[0], w[1], w[2]));
                check.refusesIndex("4: no condition", x, () -> x.setTest(r, -1, w[0], w[1], w[2]));
            }
            check.refusesIndex("4: no rule", x, () -> x.setTest(2, 0, w[0], w[1], w[2]));
            check.refusesIndex("4: no rule", x, () -> x.setTest(-1, 0, w[0], w[1], w[2]));
        }
        check.refusesIndex("4: no condition of a rule that is on", x, () -> x.setTest(1, 1, 0, 0, 0));
        check.refusesState("4: on alone", x, () -> x.setTest(1, 0, 0, 0, 0));
    }

    /** "At first all tests are 0."; "Returns the test that was there." */
    private static void promise4WhatWasThere() {
        RuleForge x = new RuleForge();
        for (int r = 0; r < 6; r++) {
            x.addRule(0);
            for (int c = 0; c < 4; c++) {
                x.addCondition(r, c < 3 ? EACH : NONE, 0, 1);
            }
        }
        for (int i = 0; i < 72; i++) {
            check.same("4: at first 0", x.setTest(i / 12, i / 3 % 4, i % 3, (i + i / 8) % 8, 5), 0);
        }
        for (int i = 0; i < 72; i++) {
            check.same("4: what was there", x.setTest(i / 12, i / 3 % 4, i % 3, 0, 0), (i + i / 8) % 8);
        }
    }

    /** "Throws `IndexOutOfBoundsException` if there is no such rule" */
    private static void promise5NoSuchRule() {
        for (int rules = 0; rules <= 6; rules++) {
            RuleForge x = new RuleForge();
            for (int r = 0; r < rules; r++) {
                x.addRule(0);
            }
            for (int rule : new int[] {-1, rules, 6, LEAST, MOST}) {
                check.refusesIndex("5: rule " + rule, x, () -> x.addTold(rule, true, 0));
                check.refusesIndex("5: rule " + rule + " ahead of the kind", x, () -> x.addTold(rule, false, 8));
            }
            for (int r = 0; r < rules; r++) {
                check.same("5: rule " + r + " of " + rules, x.addTold(r, true, 0), 0);
            }
        }
    }

    /** "Throws `IllegalArgumentException` if kind is not 0 to 7" */
    private static void promise5Kinds() {
        RuleForge x = new RuleForge();
        x.addRule(0);
        for (int kind : new int[] {-1, 8, 9, LEAST, MOST}) {
            check.refusesArgument("5: SUPPORT, kind " + kind, x, () -> x.addTold(0, true, kind));
            check.refusesArgument("5: STATE, kind " + kind, x, () -> x.addTold(0, false, kind));
        }
        check.same("5: none was added", x.actions(0), 0);
        for (int kind = 0; kind < 8; kind++) {
            for (int i = 0; i < 2; i++) {
                RuleForge y = new RuleForge();
                y.addRule(0);
                y.addCondition(0, AT_LEAST, 5, 1);
                check.same("5: kind " + kind, y.addTold(0, i == 1, kind), 0);
                y.switchOn(0);
                y.state(5, 9, 9, 9);
                y.fire(1);
                check.same("5: of kind " + kind, y.find(kind, 0, 0, 0), 1);
                check.same("5: STATE or SUPPORT", y.isStated(1) ? 0 : 1, i);
            }
        }
    }

    /** "Throws `IllegalStateException` if the rule is on, or has 3 ACTIONS", behind the exceptions named ahead of it. */
    private static void promise5OnOrFull() {
        for (int sorts = 0; sorts < 27; sorts++) {
            RuleForge x = new RuleForge();
            x.addRule(0);
            x.addCondition(0, EACH, 0, 1);
            for (int a = 0, s = sorts; a < 3; a++, s /= 3) {
                int number = s % 3 == 2 ? x.addRetract(0, 0) : x.addTold(0, s % 3 == 1, a);
                check.same("5: its number", number, a);
                check.same("5: actions()", x.actions(0), a + 1);
            }
            check.refusesState("5: a fourth, SUPPORT", x, () -> x.addTold(0, true, 0));
            check.refusesState("5: a fourth, STATE", x, () -> x.addTold(0, false, 7));
            check.refusesArgument("5: the kind comes first", x, () -> x.addTold(0, true, 8));
            check.refusesArgument("5: the kind comes first", x, () -> x.addTold(0, false, -1));
            check.same("5: actions()", x.actions(0), 3);
        }
        RuleForge x = new RuleForge();
        x.addRule(0);
        x.addCondition(0, EACH, 0, 1);
        x.switchOn(0);
        check.refusesState("5: on", x, () -> x.addTold(0, true, 0));
        check.refusesState("5: on", x, () -> x.addTold(0, false, 0));
        check.refusesArgument("5: the kind ahead of on", x, () -> x.addTold(0, true, -1));
        check.refusesArgument("5: the kind ahead of on", x, () -> x.addTold(0, true, 8));
        check.refusesIndex("5: the rule ahead of all", x, () -> x.addTold(1, true, 8));
        x.switchOff(0);
        check.same("5: off again", x.addTold(0, true, 0), 0);
    }

    /** "all its values are 0, without variables": also where the value at hand is another. */
    private static void promise5AllZero() {
        RuleForge x = new RuleForge();
        x.addRule(0);
        x.addCondition(0, EACH, 0, 1);
        for (int slot = 0; slot < 3; slot++) {
            x.setTest(0, 0, slot, 4, slot);
        }
        x.addTold(0, true, 1);
        x.addTold(0, false, 2);
        x.addTold(0, true, 3);
        x.switchOn(0);
        x.state(0, 999, -999, 5);
        x.fire(1);
        for (int kind = 1; kind <= 3; kind++) {
            check.same("5: all 0", x.find(kind, 0, 0, 0), kind);
        }
        x.switchOff(0);
        for (int i = 0; i < 9; i++) {
            check.same("5: without a variable", x.setValue(0, i / 3, i % 3, 0, 0), -1);
        }
    }

    /** "Throws `IndexOutOfBoundsException` if there is no such rule, or no such ACTION of it" */
    private static void promise6NoSuchRuleOrAction() {
        RuleForge x = new RuleForge();
        for (int r = 0; r < 6; r++) {
            x.addRule(0);
            for (int a = 0; a < Math.min(r, 3); a++) {
                x.addTold(r, true, a);
            }
        }
        for (int rule : new int[] {-1, 6, 7, LEAST, MOST}) {
            check.refusesIndex("6: rule " + rule, x, () -> x.setValue(rule, 0, 0, 0, 0));
        }
        for (int r = 0; r < 6; r++) {
            int rule = r;
            int has = Math.min(r, 3);
            for (int action : new int[] {-1, has, has + 1, 3, LEAST, MOST}) {
                check.refusesIndex("6: action " + action + " of " + has, x,
                    () -> x.setValue(rule, action, 0, 0, 0));
            }
            for (int a = 0; a < has; a++) {
                check.same("6: action " + a + " of " + has, x.setValue(r, a, 2, 5, 0), -1);
            }
        }
    }

    /** "Throws `IllegalArgumentException` if slot is not 0 to 2, variable is not -1 to 5, or plus is not -999 to 999" */
    private static void promise6OutOfBounds() {
        RuleForge x = new RuleForge();
        x.addRule(0);
        x.addTold(0, true, 0);
        for (int slot : new int[] {-1, 3, 4, LEAST, MOST}) {
            check.refusesArgument("6: slot " + slot, x, () -> x.setValue(0, 0, slot, 0, 0));
        }
        for (int variable : new int[] {-2, 6, 7, LEAST, MOST}) {
            check.refusesArgument("6: variable " + variable, x, () -> x.setValue(0, 0, 0, variable, 0));
        }
        for (int plus : new int[] {-1000, 1000, LEAST, MOST}) {
            check.refusesArgument("6: plus " + plus, x, () -> x.setValue(0, 0, 0, -1, plus));
            check.refusesArgument("6: plus " + plus, x, () -> x.setValue(0, 0, 2, 5, plus));
        }
        for (int slot = 0; slot < 3; slot++) {
            check.same("6: nothing was set", x.setValue(0, 0, slot, -1, -999), -1);
            check.same("6: variable -1", x.setValue(0, 0, slot, 5, 999), -1);
            check.same("6: variable 5", x.setValue(0, 0, slot, 0, 0), 5);
        }
    }

    /** "Throws `IllegalStateException` if the rule is on, or the ACTION is RETRACT" */
    private static void promise6OnOrRetract() {
        RuleForge x = new RuleForge();
        x.addRule(0);
        x.addCondition(0, EACH, 0, 1);
        x.setTest(0, 0, 0, 4, 0);
        x.addTold(0, true, 1);
        x.addRetract(0, 0);
        x.addTold(0, false, 2);
        x.setValue(0, 0, 1, 0, 3);
        for (int slot = 0; slot < 3; slot++) {
            int s = slot;
            check.refusesState("6: RETRACT", x, () -> x.setValue(0, 1, s, -1, 0));
            check.same("6: ahead of it", x.setValue(0, 0, s, 0, 3), s == 1 ? 0 : -1);
            check.same("6: behind it", x.setValue(0, 2, s, 0, 4), -1);
        }
        x.switchOn(0);
        for (int action = 0; action < 3; action++) {
            int a = action;
            check.refusesState("6: on", x, () -> x.setValue(0, a, 1, -1, 0));
        }
        x.state(0, 5, 0, 0);
        x.fire(1);
        check.same("6: the values are as they were", x.find(2, 9, 9, 9), 2);
        x.switchOff(0);
        check.same("6: the variable is as it was", x.setValue(0, 0, 1, -1, 0), 0);
        check.refusesState("6: off, RETRACT", x, () -> x.setValue(0, 1, 0, 0, 0));
    }

    /** "If several exceptions apply, the one that is named first is thrown." */
    private static void promise6WhichFirst() {
        RuleForge x = new RuleForge();
        for (int r = 0; r < 2; r++) {
            x.addRule(0);
            x.addCondition(r, EACH, 0, 1);
            x.addTold(r, true, 1);
            x.addRetract(r, 0);
        }
        x.switchOn(1);
        int[][] wrong = {{-1, 0, 0}, {3, 0, 0}, {0, -2, 0}, {0, 6, 0}, {0, 0, 1000}, {0, 0, -1000}, {3, 6, 1000}};
        for (int[] w : wrong) {
            for (int i = 0; i < 4; i++) {
                int rule = i / 2;
                int action = i % 2;
                check.refusesArgument("6: an argument, on or off, RETRACT or not", x,
                    () -> x.setValue(rule, action, w[0], w[1], w[2]));
                check.refusesIndex("6: no action", x, () -> x.setValue(rule, 2, w[0], w[1], w[2]));
                check.refusesIndex("6: no action", x, () -> x.setValue(rule, -1, w[0], w[1], w[2]));
            }
            check.refusesIndex("6: no rule", x, () -> x.setValue(2, 0, w[0], w[1], w[2]));
            check.refusesIndex("6: no rule", x, () -> x.setValue(-1, 0, w[0], w[1], w[2]));
        }
        check.refusesIndex("6: no action of a rule that is on", x, () -> x.setValue(1, 2, 0, 0, 0));
    }

    /** "Returns the variable that was there.": -1 to 5, of each slot of each ACTION of each rule. */
    private static void promise6WhatWasThere() {
        RuleForge x = new RuleForge();
        for (int r = 0; r < 6; r++) {
            x.addRule(0);
            for (int a = 0; a < 3; a++) {
                x.addTold(r, a % 2 == 0, 0);
            }
        }
        for (int i = 0; i < 54; i++) {
            check.same("6: at first none", x.setValue(i / 9, i / 3 % 3, i % 3, i % 7 - 1, 1), -1);
        }
        for (int i = 0; i < 54; i++) {
            check.same("6: what was there", x.setValue(i / 9, i / 3 % 3, i % 3, -1, 0), i % 7 - 1);
        }
    }

    /** "the value is that of the variable (0 without one) and the number, added up, but not below -999 nor above 999" */
    private static void promise6Sums() {
        int[] values = {-999, -1, 0, 1, 999};
        for (int value : values) {
            for (int plus : new int[] {-999, -998, -1, 0, 1, 998, 999}) {
                for (int i = 0; i < 6; i++) {
                    RuleForge x = new RuleForge();
                    x.addRule(0);
                    x.addCondition(0, EACH, 0, 1);
                    x.setTest(0, 0, i % 3, 4, i);
                    x.addTold(0, true, 1);
                    x.setValue(0, 0, i % 3, i, plus);
                    x.setValue(0, 0, (i + 1) % 3, -1, plus);
                    x.switchOn(0);
                    x.state(0, i % 3 == 0 ? value : 5, i % 3 == 1 ? value : 5, i % 3 == 2 ? value : 5);
                    check.same("6: one fires", x.fire(20), 1);
                    int sum = value + plus;
                    int due = sum < -999 ? -999 : sum > 999 ? 999 : sum;
                    check.same("6: " + value + " and " + plus, x.valueOf(1, i % 3), due);
                    check.same("6: without a variable " + plus, x.valueOf(1, (i + 1) % 3), plus);
                    check.same("6: not set", x.valueOf(1, (i + 2) % 3), 0);
                }
            }
        }
    }

    /** "Throws `IndexOutOfBoundsException` if there is no such rule" */
    private static void promise7NoSuchRule() {
        for (int rules = 0; rules <= 6; rules++) {
            RuleForge x = new RuleForge();
            for (int r = 0; r < rules; r++) {
                x.addRule(0);
            }
            for (int rule : new int[] {-1, rules, 6, LEAST, MOST}) {
                check.refusesIndex("7: rule " + rule, x, () -> x.addRetract(rule, 0));
                check.refusesIndex("7: rule " + rule + " ahead of the condition", x, () -> x.addRetract(rule, 4));
            }
            for (int r = 0; r < rules; r++) {
                check.same("7: rule " + r + " of " + rules, x.addRetract(r, 0), 0);
            }
        }
    }

    /** "Throws `IllegalArgumentException` if condition is not 0 to 3"; "(which need not be there yet)" */
    private static void promise7Conditions() {
        RuleForge x = new RuleForge();
        x.addRule(0);
        for (int condition : new int[] {-1, 4, 5, LEAST, MOST}) {
            check.refusesArgument("7: condition " + condition, x, () -> x.addRetract(0, condition));
        }
        check.same("7: none was added", x.actions(0), 0);
        for (int condition = 0; condition < 4; condition++) {
            RuleForge y = new RuleForge();
            y.addRule(0);
            check.same("7: condition " + condition + " that is not there yet", y.addRetract(0, condition), 0);
            for (int c = 0; c < 4; c++) {
                int at = (condition + 1) % 4;
                check.same("7: sound as soon as it is there", y.isSound(0) ? 1 : 0, c > condition ? 1 : 0);
                y.addCondition(0, c == at ? NONE : EACH, c == at ? 7 : c, 1);
            }
            y.switchOn(0);
            for (int kind = 0; kind < 4; kind++) {
                y.state(kind, 0, 0, 0);
            }
            y.fire(1);
            check.same("7: three are left", y.facts(), 3);
            check.same("7: that of condition " + condition + " is gone", y.find(condition, 0, 0, 0), -1);
        }
    }

    /** "Throws `IllegalStateException` if the rule is on, or has 3 ACTIONS", behind the exceptions named ahead of it. */
    private static void promise7OnOrFull() {
        for (int sorts = 0; sorts < 8; sorts++) {
            RuleForge x = new RuleForge();
            x.addRule(0);
            for (int a = 0; a < 3; a++) {
                int number = (sorts >> a & 1) == 1 ? x.addRetract(0, a) : x.addTold(0, true, a);
                check.same("7: its number", number, a);
            }
            check.refusesState("7: a fourth", x, () -> x.addRetract(0, 0));
            check.refusesState("7: a fourth", x, () -> x.addRetract(0, 3));
            check.refusesArgument("7: the condition comes first", x, () -> x.addRetract(0, 4));
            check.refusesArgument("7: the condition comes first", x, () -> x.addRetract(0, -1));
            check.same("7: actions()", x.actions(0), 3);
        }
        RuleForge x = new RuleForge();
        x.addRule(0);
        x.addCondition(0, EACH, 0, 1);
        x.switchOn(0);
        check.refusesState("7: on", x, () -> x.addRetract(0, 0));
        check.refusesArgument("7: the condition ahead of on", x, () -> x.addRetract(0, 4));
        check.refusesArgument("7: the condition ahead of on", x, () -> x.addRetract(0, -1));
        check.refusesIndex("7: the rule ahead of all", x, () -> x.addRetract(1, 4));
        x.switchOff(0);
        check.same("7: off again", x.addRetract(0, 0), 0);
    }

    /** "Throws `IndexOutOfBoundsException` if there is no such rule" */
    private static void promise8NoSuchRule() {
        for (int rules = 0; rules <= 6; rules++) {
            RuleForge x = new RuleForge();
            for (int r = 0; r < rules; r++) {
                x.addRule(0);
                x.addCondition(r, NONE, 0, 1);
            }
            for (int rule : new int[] {-1, rules, 6, LEAST, MOST}) {
                check.refusesIndex("8: rule " + rule, x, () -> x.switchOn(rule));
            }
            for (int r = 0; r < rules; r++) {
                check.same("8: rule " + r + " of " + rules, x.switchOn(r), 1);
            }
        }
    }

    /** "Throws `IllegalStateException` if it is on, or not SOUND"; "A rule is SOUND, if it has a CONDITION" */
    private static void promise8OnOrNotSound() {
        RuleForge x = new RuleForge();
        x.addRule(0);
        check.isNotSo("8: without a CONDITION", x.isSound(0));
        check.refusesState("8: without a CONDITION", x, () -> x.switchOn(0));
        x.addTold(0, true, 1);
        check.refusesState("8: with an ACTION alone", x, () -> x.switchOn(0));
        x.addCondition(0, AT_LEAST, 0, 1);
        check.isSo("8: with a CONDITION", x.isSound(0));
        x.setTest(0, 0, 2, 4, 5);
        check.refusesState("8: not bound", x, () -> x.switchOn(0));
        check.isNotSo("8: off as it was", x.isOn(0));
        x.setTest(0, 0, 2, 0, 0);
        check.same("8: sound", x.switchOn(0), 0);
        check.isSo("8: on", x.isOn(0));
        check.refusesState("8: on already", x, () -> x.switchOn(0));
        x.state(0, 0, 0, 0);
        x.fire(1);
        check.refusesState("8: on already", x, () -> x.switchOn(0));
        check.isSo("8: FIRED as it was", x.hasFired(0, 0));
        x.switchOff(0);
        check.same("8: on again", x.switchOn(0), 1);
        check.isNotSo("8: it is another match", x.hasFired(0, 0));
    }

    /** "Returns how many matches it has then.": 0, 1, and as many as there may be, for each of six rules. */
    private static void promise8HowManyMatches() {
        for (int facts = 0; facts <= 6; facts++) {
            RuleForge x = new RuleForge();
            for (int i = 0; i < facts; i++) {
                x.state(7, i, 0, 0);
            }
            int due = 1;
            for (int each = 0; each <= 3; each++) {
                int rule = x.addRule(0);
                for (int c = 0; c < each; c++) {
                    x.addCondition(rule, EACH, 7, 1);
                }
                x.addCondition(rule, NONE, 6, 1);
                check.same("8: " + each + " EACH of " + facts, x.switchOn(rule), due);
                check.same("8: matches()", x.matches(rule), due);
                due *= facts;
            }
        }
        RuleForge x = new RuleForge();
        for (int i = 0; i < 6; i++) {
            x.state(7, i, 0, 0);
        }
        for (int r = 0; r < 6; r++) {
            x.addRule(0);
            for (int c = 0; c < 3; c++) {
                x.addCondition(r, EACH, 7, 1);
            }
            check.same("8: as many as there may be", x.switchOn(r), 216);
        }
        check.same("8: in all", x.agenda(), 1296);
    }

    /**
     * "All other tests 4 to 7 need that their variable was BOUND ahead of them, by such a test in an earlier
     * CONDITION, or in an earlier slot of the same one. (So in NONE and AT LEAST nothing is BOUND.)"
     */
    private static void promise8BoundAhead() {
        for (int binder = 0; binder < 12; binder++) {
            for (int user = 0; user < 12; user++) {
                if (user == binder) {
                    continue;
                }
                for (int sort = EACH; sort <= AT_LEAST; sort++) {
                    if (user / 3 != binder / 3) {
                        boundAhead(binder, EACH, user, sort);
                        boundAhead(binder, sort, user, EACH);
                    } else {
                        boundAhead(binder, sort, user, sort);
                    }
                }
            }
        }
    }

    private static void boundAhead(int binder, int itsSort, int user, int otherSort) {
        for (int test = 4; test <= 7; test++) {
            RuleForge x = new RuleForge();
            x.addRule(0);
            for (int c = 0; c < 4; c++) {
                x.addCondition(0, c == binder / 3 ? itsSort : c == user / 3 ? otherSort : NONE, c, 1);
            }
            x.setTest(0, binder / 3, binder % 3, 4, 5);
            x.setTest(0, user / 3, user % 3, test, 5);
            boolean isBound = itsSort == EACH && binder < user;
            // two tests 4 in CONDITIONS that are EACH: the first of them binds, whichever it is
            boolean isBinder = otherSort == EACH && test == 4 && user < binder;
            String what = "8: bound at " + binder + ", test " + test + " at " + user;
            check.same(what, x.isSound(0) ? 1 : 0, isBound || isBinder ? 1 : 0);
            if (!isBound && !isBinder) {
                check.refusesState(what, x, () -> x.switchOn(0));
            } else {
                check.same(what, x.switchOn(0), 0);
            }
        }
    }

    /** "all variables of its ACTIONS are BOUND by its CONDITIONS" */
    private static void promise8BoundForActions() {
        for (int at = 0; at < 9; at++) {
            for (int variable = 0; variable <= 5; variable++) {
                RuleForge x = new RuleForge();
                x.addRule(0);
                x.addCondition(0, EACH, 0, 1);
                x.addRule(0);
                x.addCondition(1, EACH, 0, 1);
                x.setTest(1, 0, 0, 4, variable);
                for (int a = 0; a < 3; a++) {
                    x.addTold(0, a % 2 == 0, 1);
                }
                check.isSo("8: without variables", x.isSound(0));
                x.setValue(0, at / 3, at % 3, variable, 0);
                check.isNotSo("8: bound by another rule alone", x.isSound(0));
                check.refusesState("8: not bound", x, () -> x.switchOn(0));
                x.setTest(0, 0, 2, 4, (variable + 5) % 6);
                check.isNotSo("8: another variable", x.isSound(0));
                x.setTest(0, 0, 2, 4, variable);
                check.isSo("8: bound", x.isSound(0));
                check.same("8: bound", x.switchOn(0), 0);
            }
        }
    }

    /** "and each RETRACT has the number of a CONDITION of it that is EACH" */
    private static void promise8RetractNeedsEach() {
        for (int condition = 0; condition < 4; condition++) {
            for (int conditions = 1; conditions <= 4; conditions++) {
                for (int sort = EACH; sort <= AT_LEAST; sort++) {
                    RuleForge x = new RuleForge();
                    x.addRule(0);
                    for (int c = 0; c < conditions; c++) {
                        x.addCondition(0, c == condition ? sort : c == (condition + 1) % 4 ? NONE : EACH, c, 1);
                    }
                    check.isSo("8: without a RETRACT", x.isSound(0));
                    for (int a = 0; a < condition % 3; a++) {
                        x.addTold(0, true, 7);
                    }
                    x.addRetract(0, condition);
                    boolean due = condition < conditions && sort == EACH;
                    String what = "8: RETRACT of " + condition + " with " + conditions + ", sort " + sort;
                    check.same(what, x.isSound(0) ? 1 : 0, due ? 1 : 0);
                    if (!due) {
                        check.refusesState(what, x, () -> x.switchOn(0));
                    }
                }
            }
        }
    }

    /** "Only a SOUND rule can be switched on, and while it is on, it cannot be changed." */
    private static void promise8WhileOnItCannotBeChanged() {
        RuleForge x = new RuleForge();
        for (int r = 0; r < 2; r++) {
            x.addRule(0);
            x.addCondition(r, EACH, 0, 1);
            x.addTold(r, false, 1);
        }
        x.switchOn(0);
        check.refusesState("8: addCondition", x, () -> x.addCondition(0, NONE, 0, 1));
        check.refusesState("8: setTest", x, () -> x.setTest(0, 0, 0, 1, 0));
        check.refusesState("8: addTold", x, () -> x.addTold(0, false, 2));
        check.refusesState("8: setValue", x, () -> x.setValue(0, 0, 0, -1, 7));
        check.refusesState("8: addRetract", x, () -> x.addRetract(0, 0));
        check.same("8: the other one is off", x.addCondition(1, NONE, 7, 1), 1);
        check.same("8: the other one is off", x.setTest(1, 0, 0, 1, 3), 0);
        check.same("8: the other one is off", x.setValue(1, 0, 0, -1, 5), -1);
        x.state(0, 3, 0, 0);
        x.fire(1);
        check.same("8: told what it told ahead of that", x.find(1, 0, 0, 0), 1);
        check.same("8: and nothing else", x.facts(), 2);
    }

    /** "Throws `IndexOutOfBoundsException` if there is no such rule" */
    private static void promise9NoSuchRule() {
        for (int rules = 0; rules <= 6; rules++) {
            RuleForge x = new RuleForge();
            for (int r = 0; r < rules; r++) {
                x.addRule(0);
                x.addCondition(r, NONE, 0, 1);
                x.switchOn(r);
            }
            for (int rule : new int[] {-1, rules, 6, LEAST, MOST}) {
                check.refusesIndex("9: rule " + rule, x, () -> x.switchOff(rule));
            }
            for (int r = 0; r < rules; r++) {
                check.same("9: rule " + r + " of " + rules, x.switchOff(r), 0);
                check.isNotSo("9: off", x.isOn(r));
            }
        }
    }

    /** "Throws `IllegalStateException` if it is off" */
    private static void promise9Off() {
        RuleForge x = new RuleForge();
        x.addRule(0);
        check.refusesState("9: never on", x, () -> x.switchOff(0));
        x.addCondition(0, EACH, 0, 1);
        check.refusesState("9: SOUND, but off", x, () -> x.switchOff(0));
        x.switchOn(0);
        check.same("9: on", x.switchOff(0), 0);
        check.refusesState("9: off again", x, () -> x.switchOff(0));
        check.same("9: it can be changed", x.addCondition(0, EACH, 0, 1), 1);
    }

    /** "Returns how many facts are gone by that.": none, those alone that nothing else holds, and 42 at once. */
    private static void promise9HowManyAreGone() {
        RuleForge x = Full.engine();
        check.same("9: as many facts as may be", x.facts(), 48);
        check.same("9: nothing rests on rule 3", x.switchOff(3), 0);
        x.state(3, 2, 0, 0);
        x.state(7, 2, 0, 0);
        check.same("9: those of kind 7, but the one that is STATED", x.switchOff(2), 5);
        check.same("9: all but those of kind 0, and the two", x.switchOff(0), 35);
        check.same("9: what is left", x.facts(), 8);
        RuleForge y = Full.engine();
        check.same("9: all but those of kind 0", y.switchOff(0), 42);
        check.same("9: what is left", y.facts(), 6);
        check.same("9: numbers are not used again", y.next(), 48);
    }

    /** "Switches a rule off: it has no matches then." */
    private static void promise9NoMatches() {
        RuleForge x = Full.engine();
        check.same("9: six", x.matches(0), 6);
        x.switchOff(0);
        check.same("9: none", x.matches(0), 0);
        check.refusesIndex("9: no first match", x, () -> x.hasFired(0, 0));
        check.same("9: firings() stays", x.firings(0), 6);
        check.same("9: nothing on the agenda", x.agenda(), 0);
        check.same("9: switched on, they are new", x.switchOn(0), 6);
        check.same("9: and wait", x.agenda(), 6);
    }
}
