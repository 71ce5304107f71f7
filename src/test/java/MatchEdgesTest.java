/**
 * Promises 33 to 41 at their edges, with what the section "Terms" says of matches and the AGENDA: nothing there yet
 * and as many as may be, the first and the last and what is just outside, and each refused call.
 */
public final class MatchEdgesTest {
    private static final int EACH = 0;
    private static final int NONE = 1;
    private static final int AT_LEAST = 2;
    private static final int LEAST = Integer.MIN_VALUE;
    private static final int MOST = Integer.MAX_VALUE;

    private static final Check check = new Check();

    public static void main(String[] args) {
        promise33NoSuchRule();
        promise33HowMany();
        promise33NoneAndAtLeast();
        promise33NoneAndAtLeastOfVariables();
        promise33WithoutAnyEach();
        promise33AllTests();
        promise33TheFirstTestBinds();
        promise34Numbering();
        promise34NoSuchMatchOrPlace();
        promise34Places();
        promise34WithoutPlaces();
        promise35NoSuchMatch();
        promise35SinceItCameToBe();
        promise36NoSuchMatchOrVariable();
        promise36Variables();
        promise36NotBound();
        promise37HowManyWait();
        promise38Empty();
        promise38Urgency();
        promise38GreaterRow();
        promise38LongerRow();
        promise38AsOftenAsItIsThere();
        promise38SmallerRuleThenFacts();
        promise39Places();
        promise40Fired();
        promise41Mean();
        check.end();
    }

    /** Adds a rule of an urgency with EACH of the kinds, and switches it on. */
    private static int each(RuleForge x, int urgency, int... kinds) {
        int rule = x.addRule(urgency);
        for (int kind : kinds) {
            x.addCondition(rule, EACH, kind, 1);
        }
        x.switchOn(rule);
        return rule;
    }

    /** "Throws `IndexOutOfBoundsException` if there is no such rule" */
    private static void promise33NoSuchRule() {
        for (int rules = 0; rules <= 6; rules++) {
            RuleForge x = new RuleForge();
            for (int r = 0; r < rules; r++) {
                each(x, 0, r);
                x.state(r, 0, 0, 0);
            }
            for (int rule : new int[] {-1, rules, rules + 1, 6, LEAST, MOST}) {
                check.refusesIndex("33: rule " + rule, x, () -> x.matches(rule));
            }
            for (int r = 0; r < rules; r++) {
                check.same("33: rule " + r + " of " + rules, x.matches(r), 1);
            }
        }
    }

    /** "Returns how many matches of it there are.": 0 to 216, as facts come and go; none while it is off. */
    private static void promise33HowMany() {
        RuleForge x = new RuleForge();
        each(x, 0, 5, 5, 5);
        each(x, 0, 5, 5);
        each(x, 0, 5);
        x.addRule(0);
        x.addCondition(3, EACH, 5, 1);
        for (int facts = 0; facts <= 6; facts++) {
            check.same("33: three EACH", x.matches(0), facts * facts * facts);
            check.same("33: two", x.matches(1), facts * facts);
            check.same("33: one", x.matches(2), facts);
            check.same("33: off", x.matches(3), 0);
            if (facts < 6) {
                x.state(5, facts, 0, 0);
            }
        }
        for (int facts = 5; facts >= 0; facts--) {
            x.retract((facts + 3) % 6);
            check.same("33: three EACH", x.matches(0), facts * facts * facts);
            check.same("33: two", x.matches(1), facts * facts);
            check.same("33: one", x.matches(2), facts);
        }
    }

    /**
     * "for each CONDITION that is NONE there is no fact of its kind that fulfils all its tests, for each one AT LEAST
     * there are n of them or more": just too few, just enough, and more, with facts beside them that do not fulfil.
     */
    private static void promise33NoneAndAtLeast() {
        for (int n = 1; n <= 6; n++) {
            RuleForge x = new RuleForge();
            for (int sort = NONE; sort <= AT_LEAST; sort++) {
                int rule = x.addRule(0);
                x.addCondition(rule, EACH, 0, 1);
                x.addCondition(rule, sort, 1, n);
                x.setTest(rule, 1, 0, 3, 0);
                x.setTest(rule, 1, 2, 2, 10);
                x.switchOn(rule);
            }
            x.state(0, 0, 0, 0);
            // neither of these fulfils both tests, and each goes when the kind is full
            x.state(1, 1, 0, 10);
            x.state(1, 0, 0, 9);
            for (int have = 0; have <= 6; have++) {
                check.same("33: NONE beside " + have, x.matches(0), have == 0 ? 1 : 0);
                check.same("33: " + n + " of " + have, x.matches(1), have >= n ? 1 : 0);
                if (have >= 4 && have < 6) {
                    x.retract(have - 3);
                }
                if (have < 6) {
                    x.state(1, 1, have, 9);
                }
            }
        }
    }

    /** The same with tests of variables: each match counts the facts for its own values. */
    private static void promise33NoneAndAtLeastOfVariables() {
        RuleForge x = new RuleForge();
        for (int n = 1; n <= 6; n++) {
            x.addRule(0);
            x.addCondition(n - 1, EACH, 0, 1);
            x.setTest(n - 1, 0, 1, 4, 5);
            x.addCondition(n - 1, n == 6 ? NONE : AT_LEAST, 1, n);
            x.setTest(n - 1, 1, 0, 6, 5);
            x.switchOn(n - 1);
        }
        for (int i = 0; i < 6; i++) {
            x.state(0, 0, i, 0);
            x.state(1, i, 0, 0);
        }
        // the one with value i has 5 - i of kind 1 that are more
        for (int n = 1; n <= 5; n++) {
            check.same("33: AT LEAST " + n + " are more", x.matches(n - 1), 6 - n);
            check.same("33: the last one", x.valueOf(x.factOf(n - 1, 5 - n, 0), 1), 5 - n);
        }
        check.same("33: NONE is more", x.matches(5), 1);
        check.same("33: than the greatest", x.valueOf(x.factOf(5, 0, 0), 1), 5);
    }

    /** "(Of a rule without any EACH there is one match, or none.)": with one to four CONDITIONS, all of them so. */
    private static void promise33WithoutAnyEach() {
        for (int sorts = 0; sorts < 16; sorts++) {
            for (int facts = 0; facts < 16; facts++) {
                RuleForge x = new RuleForge();
                x.addRule(0);
                for (int c = 0; c < 4; c++) {
                    x.addCondition(0, (sorts >> c & 1) == 1 ? AT_LEAST : NONE, c, 1);
                }
                for (int c = 0; c < 4; c++) {
                    if ((facts >> c & 1) == 1) {
                        x.state(c, 0, 0, 0);
                        x.state(c, 1, 0, 0);
                    }
                }
                check.same("33: one or none", x.switchOn(0), facts == sorts ? 1 : 0);
                check.same("33: one or none", x.matches(0), facts == sorts ? 1 : 0);
            }
        }
    }

    /** "so that all tests are fulfilled (also the same fact for several ones)": each slot of each CONDITION counts. */
    private static void promise33AllTests() {
        for (int at = 0; at < 9; at++) {
            RuleForge x = new RuleForge();
            x.addRule(0);
            for (int c = 0; c < 3; c++) {
                x.addCondition(0, EACH, 4, 1);
                for (int slot = 0; slot < 3; slot++) {
                    x.setTest(0, c, slot, 1, 5);
                }
            }
            x.state(4, 5, 5, 5);
            check.same("33: the same fact for all three", x.switchOn(0), 1);
            x.switchOff(0);
            x.setTest(0, at / 3, at % 3, 2, 5);
            check.same("33: slot " + at % 3 + " of " + at / 3, x.switchOn(0), 0);
            x.state(4, at % 3 == 0 ? 4 : 5, at % 3 == 1 ? 4 : 5, at % 3 == 2 ? 4 : 5);
            check.same("33: another fact for that one", x.matches(0), 1);
            check.same("33: it is there", x.factOf(0, 0, at / 3), 1);
        }
    }

    /** "BOUND by the first test 4 with it ..: that test any value fulfils, and the variable has this value from there on" */
    private static void promise33TheFirstTestBinds() {
        for (int first = 0; first < 9; first++) {
            for (int second = first + 1; second < 9; second++) {
                RuleForge x = new RuleForge();
                x.addRule(0);
                for (int c = 0; c < 3; c++) {
                    x.addCondition(0, EACH, c, 1);
                    x.state(c, 10 * c, 10 * c + 1, 10 * c + 2);
                }
                x.setTest(0, second / 3, second % 3, 4, 3);
                check.same("33: alone it binds", x.switchOn(0), 1);
                check.same("36: its value", x.variableOf(0, 0, 3), 10 * (second / 3) + second % 3);
                x.switchOff(0);
                x.setTest(0, first / 3, first % 3, 4, 3);
                check.same("33: behind another it compares", x.switchOn(0), 0);
                int value = 10 * (first / 3) + first % 3;
                int kind = second / 3;
                int[] v = {10 * kind, 10 * kind + 1, 10 * kind + 2};
                v[second % 3] = value;
                x.state(kind, v[0], v[1], v[2]);
                check.same("33: two alike, of one fact or of two", x.matches(0), 1);
                check.same("36: the first one's value", x.variableOf(0, 0, 3), value);
            }
        }
    }

    /** "numbered from 0 by rising numbers of their facts: by that of the first EACH in which they differ" */
    private static void promise34Numbering() {
        int[] there = {1, 3, 4, 6, 7};
        for (int place = 0; place < 3; place++) {
            RuleForge x = new RuleForge();
            each(x, 0, 0, 0, 0);
            for (int i = 0; i < 6; i++) {
                x.state(0, i, 0, 0);
            }
            for (int match = 0; match < 216; match++) {
                check.same("34: place " + place, x.factOf(0, match, place), digit(match, 6, place));
            }
            x.retract(2);
            x.retract(0);
            x.retract(5);
            x.state(0, 7, 0, 0);
            x.state(0, 0, 0, 0);
            for (int match = 0; match < 125; match++) {
                int due = there[digit(match, 5, place)];
                check.same("34: place " + place + ", by numbers", x.factOf(0, match, place), due);
            }
        }
    }

    /** One of the three digits of a number, the first one being that of the highest value. */
    private static int digit(int number, int base, int place) {
        return place == 0 ? number / base / base : place == 1 ? number / base % base : number % base;
    }

    /** "Throws `IndexOutOfBoundsException` if there is no such rule, no such match of it, or no such place" */
    private static void promise34NoSuchMatchOrPlace() {
        for (int facts = 0; facts <= 6; facts++) {
            RuleForge x = new RuleForge();
            each(x, 0, 7, 7, 7);
            each(x, 0, 6);
            for (int i = 0; i < facts; i++) {
                x.state(7, i, 0, 0);
            }
            int has = facts * facts * facts;
            for (int match : new int[] {-1, has, has + 1, 216, LEAST, MOST}) {
                check.refusesIndex("34: match " + match + " of " + has, x, () -> x.factOf(0, match, 0));
                check.refusesIndex("34: nor any place", x, () -> x.factOf(0, match, 3));
            }
            check.refusesIndex("34: the other rule has none", x, () -> x.factOf(1, 0, 0));
            for (int rule : new int[] {-1, 2, 6, LEAST, MOST}) {
                check.refusesIndex("34: rule " + rule, x, () -> x.factOf(rule, 0, 0));
            }
            if (has > 0) {
                for (int place : new int[] {-1, 3, 4, LEAST, MOST}) {
                    check.refusesIndex("34: place " + place, x, () -> x.factOf(0, has - 1, place));
                }
                check.same("34: the last place of the last match", x.factOf(0, has - 1, 2), facts - 1);
            }
        }
    }

    /** "a place in the row of its facts, from 0 on": as many as there are EACH, wherever these stand. */
    private static void promise34Places() {
        for (int sorts = 0; sorts < 15; sorts++) {
            RuleForge x = new RuleForge();
            x.addRule(0);
            int[] due = new int[4];
            int places = 0;
            for (int c = 0; c < 4; c++) {
                boolean isEach = (sorts >> c & 1) == 1;
                x.addCondition(0, isEach ? EACH : NONE, isEach ? c : 7, 1);
                x.state(3 - c, 0, 0, 0);
                if (isEach) {
                    due[places] = 3 - c;
                    places++;
                }
            }
            check.same("34: one match", x.switchOn(0), 1);
            for (int place = 0; place < places; place++) {
                check.same("34: place " + place + " of " + places, x.factOf(0, 0, place), due[place]);
            }
            int behind = places;
            check.refusesIndex("34: no place " + behind, x, () -> x.factOf(0, 0, behind));
            check.refusesIndex("34: no place -1", x, () -> x.factOf(0, 0, -1));
        }
    }

    /** A match without facts has no place at all. */
    private static void promise34WithoutPlaces() {
        RuleForge x = new RuleForge();
        x.addRule(0);
        x.addCondition(0, NONE, 0, 1);
        check.same("34: one match", x.switchOn(0), 1);
        for (int place = -1; place <= 3; place++) {
            int p = place;
            check.refusesIndex("34: no place " + p, x, () -> x.factOf(0, 0, p));
        }
        check.isNotSo("35: but there is the match", x.hasFired(0, 0));
        check.same("36: without values", x.variableOf(0, 0, 0), 0);
    }

    /** "Throws `IndexOutOfBoundsException` if there is no such rule, or no such match of it" */
    private static void promise35NoSuchMatch() {
        RuleForge x = new RuleForge();
        check.refusesIndex("35: nothing there yet", x, () -> x.hasFired(0, 0));
        each(x, 0, 3, 3);
        each(x, 0, 2);
        check.refusesIndex("35: no match yet", x, () -> x.hasFired(0, 0));
        for (int i = 0; i < 3; i++) {
            x.state(3, i, 0, 0);
        }
        x.fire(1);
        for (int match : new int[] {-1, 9, 10, 216, LEAST, MOST}) {
            check.refusesIndex("35: match " + match, x, () -> x.hasFired(0, match));
            check.refusesIndex("35: match " + match, x, () -> x.hasFired(1, match));
        }
        check.refusesIndex("35: the other rule has none", x, () -> x.hasFired(1, 0));
        for (int rule : new int[] {-1, 2, 6, LEAST, MOST}) {
            check.refusesIndex("35: rule " + rule, x, () -> x.hasFired(rule, 0));
        }
        for (int match = 0; match < 9; match++) {
            check.same("35: match " + match, x.hasFired(0, match) ? 1 : 0, match == 8 ? 1 : 0);
        }
    }

    /** "It has FIRED, if it did since it came to be; one that is there no more, and comes to be again, has not." */
    private static void promise35SinceItCameToBe() {
        RuleForge x = new RuleForge();
        x.addRule(0);
        x.addCondition(0, EACH, 0, 1);
        x.addCondition(0, NONE, 1, 1);
        x.addCondition(0, AT_LEAST, 2, 2);
        x.switchOn(0);
        x.state(0, 0, 0, 0);
        x.state(2, 0, 0, 0);
        x.state(2, 1, 0, 0);
        check.isNotSo("35: it came to be", x.hasFired(0, 0));
        x.fire(1);
        check.isSo("35: it FIRED", x.hasFired(0, 0));
        x.state(2, 2, 0, 0);
        x.retract(1);
        check.isSo("35: it was there all the time", x.hasFired(0, 0));
        x.retract(2);
        check.same("35: AT LEAST ends it", x.matches(0), 0);
        x.state(2, 1, 0, 0);
        check.isNotSo("35: it came again", x.hasFired(0, 0));
        x.fire(1);
        x.retract(x.state(1, 0, 0, 0));
        check.isNotSo("35: NONE ended it", x.hasFired(0, 0));
        x.fire(1);
        x.switchOff(0);
        x.switchOn(0);
        check.isNotSo("35: off and on", x.hasFired(0, 0));
        x.fire(1);
        x.retract(0);
        x.state(0, 0, 0, 0);
        check.isNotSo("35: of a fact with the same values", x.hasFired(0, 0));
        check.same("21: four times", x.firings(0), 4);
    }

    /** "Throws .. if there is no such rule, no such match of it, or variable is not 0 to 5" */
    private static void promise36NoSuchMatchOrVariable() {
        RuleForge x = new RuleForge();
        check.refusesIndex("36: nothing there yet", x, () -> x.variableOf(0, 0, 0));
        each(x, 0, 3);
        each(x, 0, 2);
        check.refusesIndex("36: no match yet", x, () -> x.variableOf(0, 0, 0));
        x.state(3, 0, 0, 0);
        x.state(3, 1, 0, 0);
        for (int match : new int[] {-1, 2, 3, 216, LEAST, MOST}) {
            check.refusesIndex("36: match " + match, x, () -> x.variableOf(0, match, 0));
            check.refusesIndex("36: nor any variable", x, () -> x.variableOf(0, match, 6));
        }
        check.refusesIndex("36: the other rule has none", x, () -> x.variableOf(1, 0, 0));
        for (int rule : new int[] {-1, 2, 6, LEAST, MOST}) {
            check.refusesIndex("36: rule " + rule, x, () -> x.variableOf(rule, 0, 0));
        }
        for (int variable : new int[] {-1, 6, 7, LEAST, MOST}) {
            check.refusesIndex("36: variable " + variable, x, () -> x.variableOf(0, 1, variable));
        }
        for (int variable = 0; variable <= 5; variable++) {
            check.same("36: variable " + variable, x.variableOf(0, 1, variable), 0);
        }
    }

    /** "Returns the value that the variable has in it": all six, -999 to 999, and each rule's own. */
    private static void promise36Variables() {
        RuleForge x = new RuleForge();
        for (int r = 0; r < 2; r++) {
            x.addRule(0);
            x.addCondition(r, EACH, 0, 1);
            x.addCondition(r, NONE, 7, 1);
            x.addCondition(r, EACH, 1, 1);
            for (int slot = 0; slot < 3; slot++) {
                x.setTest(r, 0, slot, 4, r == 0 ? slot : 5 - slot);
                x.setTest(r, 2, slot, 4, r == 0 ? 3 + slot : 2 - slot);
            }
            x.switchOn(r);
        }
        int[] v = {-999, 999, 0, 1, -1, 998};
        x.state(0, v[0], v[1], v[2]);
        x.state(1, v[3], v[4], v[5]);
        for (int variable = 0; variable <= 5; variable++) {
            check.same("36: variable " + variable, x.variableOf(0, 0, variable), v[variable]);
            check.same("36: that of the other rule", x.variableOf(1, 0, variable), v[5 - variable]);
        }
        x.fire(20);
        check.same("36: FIRED or not", x.variableOf(0, 0, 1), 999);
    }

    /** "0 if the rule does not bind it" */
    private static void promise36NotBound() {
        for (int variable = 0; variable <= 5; variable++) {
            RuleForge x = new RuleForge();
            x.addRule(0);
            x.addCondition(0, EACH, 0, 1);
            x.setTest(0, 0, 1, 4, variable);
            x.switchOn(0);
            x.state(0, 5, -7, 9);
            for (int other = 0; other <= 5; other++) {
                check.same("36: bound is " + variable, x.variableOf(0, 0, other), other == variable ? -7 : 0);
            }
            x.switchOff(0);
            x.setTest(0, 0, 1, 0, 0);
            x.switchOn(0);
            check.same("36: bound no more", x.variableOf(0, 0, variable), 0);
        }
    }

    /** "Returns how many matches are on the AGENDA.": those "that are there and have not FIRED", 0 to 1296. */
    private static void promise37HowManyWait() {
        RuleForge x = new RuleForge();
        check.same("37: nothing there yet", x.agenda(), 0);
        RuleForge y = Full.matches();
        int left = 1296;
        while (left > 0) {
            check.same("37: agenda()", y.agenda(), left);
            left -= y.fire(20);
        }
        check.same("37: all FIRED", y.agenda(), 0);
        y.switchOff(2);
        check.same("37: off", y.agenda(), 0);
        y.switchOn(2);
        check.same("37: on again", y.agenda(), 216);
        y.retract(3);
        check.same("37: without a fact", y.agenda(), 125);
    }

    /** "-1 if it is empty": nothing there yet, rules that are off, all FIRED. */
    private static void promise38Empty() {
        RuleForge x = new RuleForge();
        check.same("38: nothing there yet", x.nextRule(), -1);
        x.addRule(0);
        x.addCondition(0, EACH, 0, 1);
        x.state(0, 0, 0, 0);
        check.same("38: off", x.nextRule(), -1);
        x.switchOn(0);
        check.same("38: on", x.nextRule(), 0);
        x.fire(1);
        check.same("38: FIRED", x.nextRule(), -1);
        check.same("39: FIRED", x.nextFact(0), -1);
        x.state(0, 1, 0, 0);
        check.same("38: another one", x.nextRule(), 0);
        check.same("39: another one", x.nextFact(0), 1);
        x.switchOff(0);
        check.same("38: off again", x.nextRule(), -1);
        check.same("39: off again", x.nextFact(0), -1);
    }

    /** "the greater urgency" comes ahead of all else: -9 to 9, each against the one next to it. */
    private static void promise38Urgency() {
        for (int urgency = -9; urgency < 9; urgency++) {
            for (int i = 0; i < 2; i++) {
                RuleForge x = new RuleForge();
                each(x, urgency + i, 0);
                each(x, urgency + 1 - i, 0);
                // all else speaks for the rule with less: its facts are newer, or the rule is the smaller one
                x.state(0, 0, 0, 0);
                check.same("38: " + (urgency + 1) + " ahead of " + urgency, x.nextRule(), 1 - i);
                check.same("13: it fires", x.fire(1), 1);
                check.same("21: that one", x.firings(1 - i), 1);
                check.same("38: then the other", x.nextRule(), i);
            }
        }
        RuleForge x = new RuleForge();
        each(x, -9, 0, 0, 0);
        each(x, 9, 1);
        x.state(1, 0, 0, 0);
        x.state(0, 0, 0, 0);
        check.same("38: urgency 9 with an older fact and a shorter row", x.nextRule(), 1);
    }

    /** "the greater row ..: rows are compared by their first numbers that differ", put in falling order. */
    private static void promise38GreaterRow() {
        RuleForge x = new RuleForge();
        each(x, 0, 0, 1, 2);
        for (int i = 0; i < 6; i++) {
            x.state(i % 3, i, 0, 0);
        }
        int[][] due = {{3, 4, 5}, {0, 4, 5}, {3, 1, 5}, {0, 1, 5}, {3, 4, 2}, {0, 4, 2}, {3, 1, 2}, {0, 1, 2}};
        for (int[] row : due) {
            for (int place = 0; place < 3; place++) {
                check.same("38: the greater row, place " + place, x.nextFact(place), row[place]);
            }
            x.fire(1);
        }
        check.same("38: empty", x.nextRule(), -1);
    }

    /** "of two that do not differ as far as both go, the longer one is greater": also than one of no length. */
    private static void promise38LongerRow() {
        RuleForge x = new RuleForge();
        x.addRule(0);
        x.addCondition(0, NONE, 7, 1);
        x.addCondition(0, AT_LEAST, 0, 1);
        x.switchOn(0);
        each(x, 0, 0);
        each(x, 0, 0, 0);
        each(x, 0, 0, 0, 0);
        x.state(0, 0, 0, 0);
        x.state(0, 1, 0, 0);
        // the rule and the row of each: 1 1 1 is greater than 1 1 0, that than 1 1, that than 1 0 0, that than 1 0 ..
        int[][] due = {{3, 1, 1, 1}, {3, 0, 1, 1}, {3, 1, 0, 1}, {3, 1, 1, 0}, {2, 1, 1, -1}, {3, 0, 0, 1}, {3, 0, 1, 0},
            {3, 1, 0, 0}, {2, 0, 1, -1}, {2, 1, 0, -1}, {1, 1, -1, -1}, {3, 0, 0, 0}, {2, 0, 0, -1}, {1, 0, -1, -1},
            {0, -1, -1, -1}};
        for (int[] row : due) {
            check.same("38: rule", x.nextRule(), row[0]);
            for (int place = 0; place < 3; place++) {
                check.same("39: place " + place + " of rule " + row[0], x.nextFact(place), row[1 + place]);
            }
            x.fire(1);
        }
        check.same("37: empty", x.agenda(), 0);
    }

    /** "each as often as it is among them": one that is there twice counts twice. */
    private static void promise38AsOftenAsItIsThere() {
        RuleForge x = new RuleForge();
        each(x, 0, 0, 0, 0);
        x.state(0, 0, 0, 0);
        x.state(0, 1, 0, 0);
        x.state(0, 2, 0, 0);
        int[][] due = {{2, 2, 2}, {1, 2, 2}, {2, 1, 2}, {2, 2, 1}, {0, 2, 2}, {2, 0, 2}, {2, 2, 0}, {1, 1, 2}};
        for (int[] row : due) {
            for (int place = 0; place < 3; place++) {
                check.same("38: as often as it is there, place " + place, x.nextFact(place), row[place]);
            }
            x.fire(1);
        }
    }

    /** "the smaller number of the rule; the smaller number of the fact at the first EACH at which they differ" */
    private static void promise38SmallerRuleThenFacts() {
        RuleForge x = new RuleForge();
        for (int r = 0; r < 6; r++) {
            x.addRule(0);
            for (int c = 0; c < 2; c++) {
                x.addCondition(r, EACH, 0, 1);
            }
        }
        for (int r = 5; r >= 0; r--) {
            x.switchOn(r);
        }
        x.state(0, 0, 0, 0);
        x.state(0, 1, 0, 0);
        int[][] rows = {{1, 1}, {0, 1}, {1, 0}, {0, 0}};
        for (int i = 0; i < 24; i++) {
            // the rows 0 1 and 1 0 are alike when put in falling order, so the rule goes ahead of the facts there
            int rule = i < 6 ? i : i < 18 ? (i - 6) / 2 : i - 18;
            int[] row = rows[i < 6 ? 0 : i < 18 ? 1 + i % 2 : 3];
            check.same("38: the smaller rule", x.nextRule(), rule);
            check.same("39: place 0", x.nextFact(0), row[0]);
            check.same("39: place 1", x.nextFact(1), row[1]);
            x.fire(1);
        }
        check.same("38: empty", x.nextRule(), -1);
    }

    /** "Returns the number of the fact there; -1 if it has none there, or the AGENDA is empty." */
    private static void promise39Places() {
        for (int places = 0; places <= 3; places++) {
            RuleForge x = new RuleForge();
            x.addRule(0);
            x.addCondition(0, AT_LEAST, 0, 1);
            for (int c = 0; c < places; c++) {
                x.addCondition(0, EACH, c, 1);
            }
            x.switchOn(0);
            for (int i = 0; i < 3; i++) {
                x.state(i, 0, 0, 0);
            }
            for (int place = -2; place <= 5; place++) {
                int due = place >= 0 && place < places ? place : -1;
                check.same("39: place " + place + " of " + places, x.nextFact(place), due);
            }
            check.same("39: the least place", x.nextFact(LEAST), -1);
            check.same("39: the greatest place", x.nextFact(MOST), -1);
            x.fire(1);
            check.same("39: empty", x.nextFact(0), -1);
        }
    }

    /** "Returns how often a match FIRED, in all rules together." */
    private static void promise40Fired() {
        RuleForge x = new RuleForge();
        check.same("40: nothing there yet", x.fired(), 0);
        check.same("40: none fires", x.fire(20), 0);
        check.same("40: fired()", x.fired(), 0);
        RuleForge y = Full.matches();
        for (int done = 0; done < 1296;) {
            done += y.fire(20);
            check.same("40: fired()", y.fired(), done);
        }
        check.same("40: none waits", y.fire(20), 0);
        y.retract(0);
        y.switchOff(0);
        check.same("40: also those that are there no more", y.fired(), 1296);
        y.switchOn(0);
        y.fire(7);
        check.same("40: and those that came again", y.fired(), 1303);
    }

    /** "the mean of supports() of all facts, not cut; 0 without facts" */
    private static void promise41Mean() {
        RuleForge x = new RuleForge();
        check.same("41: without facts", x.meanSupports(), 0.0);
        x.state(0, 0, 0, 0);
        check.same("41: one of 0", x.meanSupports(), 0.0);
        x.takeBack(0);
        check.same("41: without facts again", x.meanSupports(), 0.0);
        x.addRule(0);
        x.addCondition(0, NONE, 7, 1);
        x.addTold(0, true, 0);
        x.switchOn(0);
        x.fire(1);
        check.same("41: the first place of the first kind counts too", x.meanSupports(), 1.0);
        RuleForge w = new RuleForge();
        w.addRule(0);
        w.addCondition(0, NONE, 7, 1);
        w.addTold(0, true, 5);
        w.switchOn(0);
        w.fire(1);
        check.same("41: number 0 counts too", w.meanSupports(), 1.0);
        RuleForge y = Full.engine();
        check.same("41: 42 of 48 by one", y.meanSupports(), 42.0 / 48.0);
        y.retract(0);
        check.same("41: 35 of 40 by one", y.meanSupports(), 35.0 / 40.0);
        RuleForge z = Full.matches();
        for (int i = 1; i <= 4; i++) {
            z.fire(5);
            check.same("41: not cut", z.meanSupports(), 5.0 * i / 7.0);
        }
        check.same("41: twenty of seven", z.meanSupports(), 20.0 / 7.0);
    }
}
