/**
 * Promises 14 to 32 at their edges (rules and facts, asked): the first and the last that there is and what is just
 * outside, nothing there yet and as many as may be, and each refused call.
 */
public final class QuestionEdgesTest {
    private static final int EACH = 0;
    private static final int NONE = 1;
    private static final int AT_LEAST = 2;
    private static final int LEAST = Integer.MIN_VALUE;
    private static final int MOST = Integer.MAX_VALUE;

    private static final Check check = new Check();

    public static void main(String[] args) {
        promise14Rules();
        promises15To21NoSuchRule();
        promise15IsOn();
        promise16IsSound();
        promise17Urgency();
        promises18And19Counts();
        promise20NoSuchCondition();
        promise20Candidates();
        promise20TestsOfVariables();
        promise21Firings();
        promise22Facts();
        promise23Next();
        promise24IsThere();
        promise25Find();
        promise25OutOfBounds();
        promises26To32NoSuchFact();
        promise26KindOf();
        promise27Slots();
        promise28IsStated();
        promise29Supports();
        promise29EachCountsOnce();
        promise30Because();
        promise31StatedAndBehind();
        promise31Row();
        promise31GreatestOfTheLeast();
        promise31WithoutFacts();
        promise31Ring();
        promise32Uses();
        promise32EachCountsOnce();
        check.end();
    }

    /** "Returns how many rules there are.": 0 to 6. */
    private static void promise14Rules() {
        RuleForge x = new RuleForge();
        for (int r = 0; r < 6; r++) {
            check.same("14: rules()", x.rules(), r);
            x.addRule(0);
        }
        check.same("14: six", x.rules(), 6);
        check.refusesState("14: a seventh", x, () -> x.addRule(0));
        check.refusesArgument("14: a wrong one", x, () -> x.addRule(10));
        check.same("14: still six", x.rules(), 6);
    }

    /** "Throws `IndexOutOfBoundsException` if there is no such rule", for any number of rules. */
    private static void promises15To21NoSuchRule() {
        for (int rules = 0; rules <= 6; rules++) {
            RuleForge x = new RuleForge();
            for (int r = 0; r < rules; r++) {
                x.addRule(0);
                x.addCondition(r, EACH, 0, 1);
            }
            for (int rule : new int[] {-1, rules, rules + 1, 6, LEAST, MOST}) {
                check.refusesIndex("15: rule " + rule, x, () -> x.isOn(rule));
                check.refusesIndex("16: rule " + rule, x, () -> x.isSound(rule));
                check.refusesIndex("17: rule " + rule, x, () -> x.urgency(rule));
                check.refusesIndex("18: rule " + rule, x, () -> x.conditions(rule));
                check.refusesIndex("19: rule " + rule, x, () -> x.actions(rule));
                check.refusesIndex("20: rule " + rule, x, () -> x.candidates(rule, 0));
                check.refusesIndex("21: rule " + rule, x, () -> x.firings(rule));
            }
            for (int r = 0; r < rules; r++) {
                check.isNotSo("15: rule " + r, x.isOn(r));
                check.isSo("16: rule " + r, x.isSound(r));
                check.same("17: rule " + r, x.urgency(r), 0);
                check.same("18: rule " + r, x.conditions(r), 1);
                check.same("19: rule " + r, x.actions(r), 0);
                check.same("20: rule " + r, x.candidates(r, 0), 0);
                check.same("21: rule " + r, x.firings(r), 0);
            }
        }
    }

    /** "Returns whether it is on.": off at first, and each rule for itself. */
    private static void promise15IsOn() {
        RuleForge x = new RuleForge();
        for (int r = 0; r < 6; r++) {
            x.addRule(0);
            x.addCondition(r, EACH, 0, 1);
        }
        for (int on = 0; on < 6; on++) {
            x.switchOn(on);
            for (int r = 0; r < 6; r++) {
                check.same("15: rule " + r, x.isOn(r) ? 1 : 0, r == on ? 1 : 0);
            }
            x.switchOff(on);
            check.isNotSo("15: off again", x.isOn(on));
        }
    }

    /** "A rule is SOUND, if it has a CONDITION, ..": not without one, also with ACTIONS; on or off. */
    private static void promise16IsSound() {
        for (int sort = EACH; sort <= AT_LEAST; sort++) {
            RuleForge x = new RuleForge();
            x.addRule(0);
            check.isNotSo("16: nothing there yet", x.isSound(0));
            for (int a = 0; a < 3; a++) {
                x.addTold(0, true, 0);
                check.isNotSo("16: ACTIONS alone", x.isSound(0));
            }
            for (int c = 0; c < 4; c++) {
                x.addCondition(0, sort == EACH && c == 3 ? NONE : sort, 0, 6);
                check.isSo("16: with a CONDITION", x.isSound(0));
            }
            x.switchOn(0);
            check.isSo("16: on", x.isSound(0));
            x.switchOff(0);
            check.isSo("16: off", x.isSound(0));
        }
    }

    /** "Returns its urgency.": -9 to 9, each its own. */
    private static void promise17Urgency() {
        RuleForge x = new RuleForge();
        int[] urgencies = {9, -9, 0, 8, -8, 1};
        for (int r = 0; r < 6; r++) {
            x.addRule(urgencies[r]);
        }
        for (int r = 0; r < 6; r++) {
            check.same("17: rule " + r, x.urgency(r), urgencies[r]);
        }
    }

    /** "how many CONDITIONS it has", 0 to 4; "how many ACTIONS it has", 0 to 3; a refused one does not count. */
    private static void promises18And19Counts() {
        RuleForge x = new RuleForge();
        x.addRule(0);
        x.addRule(0);
        for (int c = 0; c < 4; c++) {
            check.same("18: conditions()", x.conditions(1), c);
            check.refusesArgument("18: a wrong one", x, () -> x.addCondition(1, NONE, 8, 1));
            x.addCondition(1, c == 2 ? EACH : NONE, 0, 1);
        }
        check.refusesState("18: a fifth", x, () -> x.addCondition(1, NONE, 0, 1));
        for (int a = 0; a < 3; a++) {
            check.same("19: actions()", x.actions(1), a);
            check.refusesArgument("19: a wrong one", x, () -> x.addRetract(1, 4));
            int number = a == 1 ? x.addRetract(1, 2) : x.addTold(1, false, 0);
            check.same("19: its number", number, a);
        }
        check.refusesState("19: a fourth", x, () -> x.addRetract(1, 2));
        check.same("18: four", x.conditions(1), 4);
        check.same("19: three", x.actions(1), 3);
        check.same("18: the other rule has none", x.conditions(0), 0);
        check.same("19: the other rule has none", x.actions(0), 0);
    }

    /** "Throws `IndexOutOfBoundsException` if there is no such rule, or no such CONDITION of it" */
    private static void promise20NoSuchCondition() {
        RuleForge x = new RuleForge();
        for (int r = 0; r < 5; r++) {
            x.addRule(0);
            for (int c = 0; c < r; c++) {
                x.addCondition(r, NONE, c, 1);
            }
        }
        for (int i = 0; i < 10; i++) {
            // one of kind 0, two of kind 1, three of kind 2, four of kind 3
            x.state(i < 1 ? 0 : i < 3 ? 1 : i < 6 ? 2 : 3, i, 0, 0);
        }
        for (int r = 0; r < 5; r++) {
            int rule = r;
            for (int condition : new int[] {-1, r, r + 1, 4, LEAST, MOST}) {
                check.refusesIndex("20: condition " + condition + " of " + r, x, () -> x.candidates(rule, condition));
            }
            for (int c = 0; c < r; c++) {
                check.same("20: condition " + c + " of " + r, x.candidates(r, c), c + 1);
                x.setTest(r, c, 0, 3, 2);
                check.same("20: with a test", x.candidates(r, c), c == 0 ? 0 : c == 1 ? 0 : c + 1);
            }
        }
        check.refusesIndex("20: no rule", x, () -> x.candidates(5, 0));
        check.refusesIndex("20: no rule", x, () -> x.candidates(-1, 0));
    }

    /** "how many facts are of its kind, and fulfil those of its tests that are 1 to 3": 0 to 6, up to the last v. */
    private static void promise20Candidates() {
        int[] values = {-999, -998, 0, 1, 998, 999};
        for (int sort = EACH; sort <= AT_LEAST; sort++) {
            for (int slot = 0; slot < 3; slot++) {
                RuleForge x = new RuleForge();
                x.addRule(0);
                x.addCondition(0, sort, 7, 6);
                for (int facts = 0; facts < 6; facts++) {
                    check.same("20: any of " + facts, x.candidates(0, 0), facts);
                    int v = values[facts];
                    x.state(7, slot == 0 ? v : 0, slot == 1 ? v : 0, slot == 2 ? v : 0);
                    x.state(6, facts, 0, 0);
                }
                check.same("20: six", x.candidates(0, 0), 6);
                for (int v : new int[] {-999, -998, -997, -1, 0, 1, 2, 997, 998, 999}) {
                    int[] due = {6, 0, 0, 0};
                    for (int value : values) {
                        due[1] += value == v ? 1 : 0;
                        due[2] += value < v ? 1 : 0;
                        due[3] += value > v ? 1 : 0;
                    }
                    for (int test = 0; test <= 3; test++) {
                        x.setTest(0, 0, slot, test, v);
                        check.same("20: test " + test + " of " + v, x.candidates(0, 0), due[test]);
                    }
                }
            }
        }
    }

    /** "those of its tests that are 1 to 3": tests 4 to 7 do not count, SOUND or not, on or off. */
    private static void promise20TestsOfVariables() {
        RuleForge x = new RuleForge();
        x.addRule(0);
        x.addCondition(0, EACH, 1, 1);
        x.state(1, 5, 3, 0);
        x.state(1, 4, 4, 0);
        for (int test = 4; test <= 7; test++) {
            x.setTest(0, 0, 0, test, 5);
            check.same("20: test " + test, x.candidates(0, 0), 2);
            x.setTest(0, 0, 1, 1, 4);
            check.same("20: beside test " + test, x.candidates(0, 0), 1);
            x.setTest(0, 0, 1, 0, 4);
        }
        x.setTest(0, 0, 0, 4, 5);
        x.setTest(0, 0, 1, 4, 5);
        check.same("20: on, one match", x.switchOn(0), 1);
        check.same("20: on, two", x.candidates(0, 0), 2);
    }

    /** "Returns how often a match of it FIRED, in all.": also matches that are there no more. */
    private static void promise21Firings() {
        RuleForge x = Full.matches();
        for (int i = 0; i < 65; i++) {
            x.fire(20);
        }
        for (int r = 0; r < 6; r++) {
            check.same("21: all that there may be", x.firings(r), 216);
            x.switchOff(r);
            check.same("21: of matches that are there no more", x.firings(r), 216);
        }
        x.switchOn(5);
        x.fire(3);
        check.same("21: once more", x.firings(5), 219);
        check.same("21: of the others as it was", x.firings(4), 216);
    }

    /** "Returns how many facts there are.": 0 to 48. */
    private static void promise22Facts() {
        RuleForge x = new RuleForge();
        for (int i = 0; i < 48; i++) {
            check.same("22: facts()", x.facts(), i);
            x.state(i / 6, i % 6, 0, 0);
        }
        check.same("22: as many as may be", x.facts(), 48);
        for (int kind = 0; kind < 8; kind++) {
            int k = kind;
            check.refusesState("22: one more", x, () -> x.state(k, 6, 0, 0));
        }
        for (int i = 0; i < 48; i++) {
            check.same("22: facts()", x.facts(), 48 - i);
            x.retract((i * 5) % 48);
        }
        check.same("22: none again", x.facts(), 0);
    }

    /** "Returns the number that the next fact will have." */
    private static void promise23Next() {
        RuleForge x = new RuleForge();
        check.same("23: at first", x.next(), 0);
        check.refusesArgument("23: a wrong one", x, () -> x.state(8, 0, 0, 0));
        check.same("23: none was used", x.next(), 0);
        for (int i = 0; i < 6; i++) {
            check.same("23: its number", x.state(3, i, 0, 0), i);
            check.same("23: next()", x.next(), i + 1);
        }
        check.refusesState("23: a seventh", x, () -> x.state(3, 6, 0, 0));
        x.state(3, 0, 0, 0);
        check.same("23: none was used", x.next(), 6);
        x.addRule(0);
        x.addCondition(0, AT_LEAST, 3, 6);
        x.addTold(0, true, 3);
        x.addTold(0, true, 2);
        x.switchOn(0);
        x.fire(1);
        check.same("23: one that was told, and one that had no room", x.next(), 7);
        x.switchOff(0);
        check.same("23: gone", x.next(), 7);
    }

    /** "Returns whether there is a fact with it now.": any number may be asked for. */
    private static void promise24IsThere() {
        RuleForge x = new RuleForge();
        for (int i = 0; i < 48; i++) {
            check.isNotSo("24: not yet " + i, x.isThere(i));
            x.state(i % 8, i, 0, 0);
            check.isSo("24: now " + i, x.isThere(i));
        }
        for (int fact : new int[] {-1, -2, 48, 49, 1000, LEAST, LEAST + 1, MOST, MOST - 1}) {
            check.isNotSo("24: fact " + fact, x.isThere(fact));
        }
        for (int i = 0; i < 48; i++) {
            x.retract(i);
            check.isNotSo("24: no more " + i, x.isThere(i));
            check.same("24: the next one", x.isThere(i + 1) ? 1 : 0, i < 47 ? 1 : 0);
        }
        x.state(0, 0, 0, 0);
        check.isNotSo("24: in whose place another came", x.isThere(0));
        check.isSo("24: that one", x.isThere(48));
    }

    /** "Returns the number of the fact of this kind with these values; -1 without one." */
    private static void promise25Find() {
        RuleForge x = new RuleForge();
        int[] values = {-999, -998, 0, 998, 999};
        int number = 0;
        for (int kind = 0; kind < 8; kind++) {
            for (int v : values) {
                check.same("25: not there yet", x.find(kind, v, -v, v), -1);
                x.state(kind, v, -v, v);
                check.same("25: kind " + kind + ", " + v, x.find(kind, v, -v, v), number);
                check.same("25: another a", x.find(kind, v == 0 ? 1 : 0, -v, v), -1);
                check.same("25: another b", x.find(kind, v, v == 0 ? 1 : 0, v), -1);
                check.same("25: another c", x.find(kind, v, -v, v == 0 ? 1 : 0), -1);
                number++;
            }
        }
        for (int i = 0; i < 40; i++) {
            x.retract(i);
            check.same("25: gone", x.find(i / 5, values[i % 5], -values[i % 5], values[i % 5]), -1);
        }
    }

    /** "-1 without one": nor is there one with a kind or a value out of bounds. */
    private static void promise25OutOfBounds() {
        RuleForge x = new RuleForge();
        for (int kind = 0; kind < 8; kind++) {
            x.state(kind, 999, -999, 999);
            x.state(kind, 0, 0, 0);
        }
        for (int wrong : new int[] {-1, 8, 9, -8, LEAST, MOST}) {
            check.same("25: kind " + wrong, x.find(wrong, 999, -999, 999), -1);
            check.same("25: kind " + wrong, x.find(wrong, 0, 0, 0), -1);
        }
        for (int wrong : new int[] {-1000, 1000, LEAST, MOST}) {
            check.same("25: a " + wrong, x.find(0, wrong, -999, 999), -1);
            check.same("25: b " + wrong, x.find(0, 999, wrong, 999), -1);
            check.same("25: c " + wrong, x.find(0, 999, -999, wrong), -1);
        }
        check.same("25: the right one", x.find(0, 999, -999, 999), 0);
    }

    /** "Throws `IndexOutOfBoundsException` if there is no fact with this number now" */
    private static void promises26To32NoSuchFact() {
        RuleForge x = Full.engine();
        x.retract(x.find(7, 5, 0, 0));
        int gone = -1;
        for (int fact = 0; fact < 48; fact++) {
            gone = x.isThere(fact) ? gone : fact;
        }
        for (int fact : new int[] {-1, gone, 48, 49, LEAST, MOST}) {
            check.refusesIndex("26: fact " + fact, x, () -> x.kindOf(fact));
            check.refusesIndex("27: fact " + fact, x, () -> x.valueOf(fact, 0));
            check.refusesIndex("28: fact " + fact, x, () -> x.isStated(fact));
            check.refusesIndex("29: fact " + fact, x, () -> x.supports(fact));
            check.refusesIndex("30: fact " + fact, x, () -> x.because(fact));
            check.refusesIndex("31: fact " + fact, x, () -> x.distance(fact));
            check.refusesIndex("32: fact " + fact, x, () -> x.uses(fact));
        }
        check.same("24: the others are there", x.facts(), 47);
        RuleForge y = Full.engine();
        y.retract(gone);
        for (int i = 0; i < 48; i++) {
            if (i != gone) {
                int kind = y.kindOf(i);
                int value = y.valueOf(i, 0);
                check.isSo("26: fact " + i, kind >= 0 && kind < 8);
                check.isSo("27: fact " + i, value >= 0 && value < 6);
                check.same("28: fact " + i, y.isStated(i) ? 1 : 0, i < 6 ? 1 : 0);
                check.same("29: fact " + i, y.supports(i), i < 6 ? 0 : 1);
                check.isSo("30: fact " + i, y.because(i) < 3);
                check.isSo("31: fact " + i, y.distance(i) < 3);
                check.same("32: fact " + i, y.uses(i), kind < 4 ? 1 : 0);
            }
        }
    }

    /** "Returns its kind.": 0 to 7. */
    private static void promise26KindOf() {
        RuleForge x = new RuleForge();
        for (int i = 0; i < 48; i++) {
            x.state((i * 3) % 8, i, 0, 0);
        }
        for (int i = 0; i < 48; i++) {
            check.same("26: fact " + i, x.kindOf(i), (i * 3) % 8);
        }
    }

    /** "Throws `IndexOutOfBoundsException` if .., or slot is not 0 to 2" */
    private static void promise27Slots() {
        for (int kind = 0; kind < 8; kind++) {
            RuleForge x = new RuleForge();
            for (int i = 0; i < 48; i++) {
                x.state(i / 6, 999 - i, i - 999, i);
            }
            for (int i = 6 * kind; i < 6 * kind + 6; i++) {
                int fact = i;
                for (int slot : new int[] {-1, 3, 4, LEAST, MOST}) {
                    check.refusesIndex("27: slot " + slot, x, () -> x.valueOf(fact, slot));
                }
                check.same("27: slot 0", x.valueOf(i, 0), 999 - i);
                check.same("27: slot 1", x.valueOf(i, 1), i - 999);
                check.same("27: slot 2", x.valueOf(i, 2), i);
            }
            check.refusesIndex("27: no fact and no slot", x, () -> x.valueOf(48, 3));
        }
    }

    /** "Returns whether it is STATED.": SUPPORTED or not. */
    private static void promise28IsStated() {
        RuleForge x = Full.engine();
        for (int fact = 0; fact < 48; fact++) {
            check.same("28: fact " + fact, x.isStated(fact) ? 1 : 0, fact < 6 ? 1 : 0);
        }
        x.state(7, 0, 0, 0);
        check.isSo("28: STATED and SUPPORTED", x.isStated(x.find(7, 0, 0, 0)));
        x.switchOff(2);
        check.isSo("28: STATED alone", x.isStated(x.find(7, 0, 0, 0)));
    }

    /** "Returns by how many matches it is SUPPORTED": none, one, and 6 * 216. */
    private static void promise29Supports() {
        RuleForge x = Full.matches();
        check.same("29: none", x.supports(0), 0);
        for (int done = 0; done < 1296;) {
            done += x.fire(20);
            check.same("29: all that FIRED", x.supports(6), done);
        }
        check.same("29: as many as may be", x.supports(6), 1296);
        check.same("41: one of seven facts", x.meanSupports(), 1296.0 / 7.0);
        x.switchOff(0);
        check.same("29: without those of rule 0", x.supports(6), 1080);
        check.same("12: it itself alone", x.retract(6), 1);
        check.same("37: nothing waits", x.agenda(), 0);
        check.same("10: it comes again", x.state(1, 0, 0, 0), 7);
        check.same("29: and is SUPPORTED by none", x.supports(7), 0);
    }

    /** "(each counts once)": a match that SUPPORTs it by two or three ACTIONS. */
    private static void promise29EachCountsOnce() {
        for (int times = 1; times <= 3; times++) {
            RuleForge x = new RuleForge();
            x.addRule(0);
            x.addCondition(0, EACH, 0, 1);
            for (int a = 0; a < times; a++) {
                x.addTold(0, true, 1);
            }
            x.switchOn(0);
            for (int facts = 1; facts <= 6; facts++) {
                x.state(0, facts, 0, 0);
                x.fire(1);
                check.same("29: " + times + " times by each of " + facts, x.supports(1), facts);
            }
        }
    }

    /** "the smallest number of the rules of the matches that SUPPORT it; -1 if there are none" */
    private static void promise30Because() {
        RuleForge x = new RuleForge();
        for (int r = 0; r < 6; r++) {
            x.addRule(0);
            x.addCondition(r, EACH, 0, 1);
            x.addTold(r, true, 1);
        }
        x.state(0, 0, 0, 0);
        x.state(1, 0, 0, 0);
        check.same("30: none", x.because(1), -1);
        for (int r = 5; r >= 0; r--) {
            x.switchOn(r);
            check.same("30: not yet FIRED", x.because(1), r == 5 ? -1 : r + 1);
            x.fire(1);
            check.same("30: the smallest", x.because(1), r);
        }
        check.same("30: the one that is STATED alone", x.because(0), -1);
        for (int r = 0; r < 6; r++) {
            x.switchOff(r);
            check.same("30: the smallest that is left", x.because(1), r == 5 ? -1 : r + 1);
        }
    }

    /** "0 if it is STATED; otherwise 1 more than the least ..": each as far as may be. */
    private static void promise31StatedAndBehind() {
        RuleForge x = Full.oneHoldsAll();
        int[] more = {0, 1, 1, 2, 2, 2, 2, 2};
        for (int i = 0; i < 48; i++) {
            check.same("31: fact " + i, x.distance(i), more[x.kindOf(i)] + x.valueOf(i, 0));
        }
        x.state(0, 3, 0, 0);
        check.same("31: STATED and SUPPORTED", x.distance(x.find(0, 3, 0, 0)), 0);
        check.same("31: behind it", x.distance(x.find(7, 5, 0, 0)), 4);
        check.same("31: ahead of it", x.distance(x.find(0, 2, 0, 0)), 2);
    }

    /** "1 more than ..": 0 to 35 in a row. */
    private static void promise31Row() {
        RuleForge x = Full.row();
        for (int i = 0; i < 36; i++) {
            check.same("31: the row", x.distance(i), i);
        }
        x.state(x.kindOf(20), 0, 0, x.valueOf(20, 2));
        for (int i = 0; i < 36; i++) {
            check.same("31: from the nearest that is STATED", x.distance(i), i < 20 ? i : i - 20);
        }
    }

    /** "the least, over the matches that SUPPORT it, of the greatest distance of the facts of the match" */
    private static void promise31GreatestOfTheLeast() {
        RuleForge x = new RuleForge();
        int[][] from = {{0}, {1}, {2, 0}, {0, 2}, {1, 1, 0}};
        int[] to = {1, 2, 3, 3, 3};
        for (int r = 0; r < 5; r++) {
            x.addRule(0);
            for (int kind : from[r]) {
                x.addCondition(r, EACH, kind, 1);
            }
            x.addTold(r, true, to[r]);
            x.switchOn(r);
        }
        x.state(0, 0, 0, 0);
        check.same("31: five fire", x.fire(20), 5);
        int fact = x.find(3, 0, 0, 0);
        check.same("31: by three", x.supports(fact), 3);
        check.same("31: the least of 3, 3 and 2", x.distance(fact), 2);
        x.switchOff(4);
        check.same("31: the greatest, in each order", x.distance(fact), 3);
        x.switchOff(2);
        check.same("31: the greatest, in the other order", x.distance(fact), 3);
        x.state(2, 0, 0, 0);
        check.same("31: both are STATED", x.distance(fact), 1);
    }

    /** "(0 for a match without facts)" */
    private static void promise31WithoutFacts() {
        RuleForge x = new RuleForge();
        x.addRule(0);
        x.addCondition(0, NONE, 7, 1);
        x.addTold(0, true, 0);
        x.addRule(0);
        x.addCondition(1, AT_LEAST, 0, 1);
        x.addTold(1, true, 1);
        x.addRule(0);
        x.addCondition(2, EACH, 1, 1);
        x.addTold(2, true, 2);
        for (int r = 0; r < 3; r++) {
            x.switchOn(r);
        }
        check.same("31: three fire", x.fire(20), 3);
        check.same("31: a NONE alone", x.distance(0), 1);
        check.same("31: an AT LEAST alone has no facts", x.distance(1), 1);
        check.same("31: behind one without facts", x.distance(2), 2);
    }

    /** "matches with a fact whose distance is -1 left out; -1 if there is no such number (as in a ring)" */
    private static void promise31Ring() {
        RuleForge x = new RuleForge();
        int[][] from = {{1}, {0}, {0, 4}, {4}};
        int[] to = {0, 1, 2, 2};
        for (int r = 0; r < 4; r++) {
            x.addRule(0);
            for (int kind : from[r]) {
                x.addCondition(r, EACH, kind, 1);
            }
            x.addTold(r, true, to[r]);
            x.switchOn(r);
        }
        x.state(0, 0, 0, 0);
        x.state(4, 0, 0, 0);
        check.same("31: four fire", x.fire(20), 4);
        x.takeBack(0);
        check.same("31: in a ring", x.distance(0), -1);
        check.same("31: in a ring", x.distance(x.find(1, 0, 0, 0)), -1);
        check.same("31: of two matches one is left out", x.distance(x.find(2, 0, 0, 0)), 1);
        x.switchOff(3);
        check.same("31: both are left out", x.distance(x.find(2, 0, 0, 0)), -1);
        x.state(1, 0, 0, 0);
        check.same("31: none is left out", x.distance(x.find(2, 0, 0, 0)), 2);
    }

    /** "Returns how many matches, FIRED or not, have it among their facts": none, and as many as may be. */
    private static void promise32Uses() {
        RuleForge x = Full.matches();
        for (int fact = 0; fact < 6; fact++) {
            check.same("32: 216 less 125, in six rules", x.uses(fact), 546);
        }
        x.fire(20);
        check.same("32: FIRED or not", x.uses(5), 546);
        check.same("32: SUPPORTED, and in no match", x.uses(6), 0);
        for (int r = 0; r < 6; r++) {
            x.switchOff(r);
            check.same("32: without rule " + r, x.uses(0), 546 - 91 * (r + 1));
        }
    }

    /** "(each counts once, also one that has it twice)", or three times. */
    private static void promise32EachCountsOnce() {
        for (int each = 1; each <= 3; each++) {
            RuleForge x = new RuleForge();
            x.addRule(0);
            for (int c = 0; c < each; c++) {
                x.addCondition(0, EACH, 3, 1);
            }
            x.addCondition(0, AT_LEAST, 3, 1);
            x.state(3, 0, 0, 0);
            check.same("32: off", x.uses(0), 0);
            x.switchOn(0);
            check.same("32: " + each + " times in one", x.uses(0), 1);
            x.state(3, 1, 0, 0);
            int due = each == 1 ? 1 : each == 2 ? 3 : 7;
            check.same("32: " + each + " EACH", x.uses(0), due);
            check.same("32: " + each + " EACH", x.uses(1), due);
        }
    }
}
