/** Promises 1 to 9 (building rules) and 14 to 21 (rules, asked). */
public final class RuleBuildingTest {
    private static final int EACH = 0;
    private static final int NONE = 1;
    private static final int AT_LEAST = 2;

    private static final Check check = new Check();

    public static void main(String[] args) {
        promise1();
        promise2();
        promise3();
        promise3Bounds();
        promise4();
        promise4Bounds();
        promise5();
        promise6();
        promise6Told();
        promise7();
        promise8();
        promise8Sound();
        promise8Values();
        promise9();
        whileOn();
        asked();
        promise20();
        check.end();
    }

    private static void promise1() {
        RuleForge x = new RuleForge();
        check.same("1: rules()", x.rules(), 0);
        check.same("1: facts()", x.facts(), 0);
        check.same("1: next()", x.next(), 0);
        check.same("1: agenda()", x.agenda(), 0);
        check.same("1: fired()", x.fired(), 0);
        check.same("1: nextRule()", x.nextRule(), -1);
        check.same("1: meanSupports()", x.meanSupports(), 0.0);
        RuleForge y = new RuleForge();
        y.addRule(1);
        y.state(1, 1, 1, 1);
        check.same("1: another object is another engine", x.rules() + x.facts(), 0);
    }

    private static void promise2() {
        RuleForge x = new RuleForge();
        check.refusesArgument("2: urgency 10", x, () -> x.addRule(10));
        check.refusesArgument("2: urgency -10", x, () -> x.addRule(-10));
        check.refusesArgument("2: the least urgency", x, () -> x.addRule(Integer.MIN_VALUE));
        int[] urgencies = {-9, 9, 0, 1, -1, 5};
        for (int r = 0; r < 6; r++) {
            check.same("2: addRule", x.addRule(urgencies[r]), r);
            check.same("2: rules()", x.rules(), r + 1);
        }
        for (int r = 0; r < 6; r++) {
            check.same("2: urgency()", x.urgency(r), urgencies[r]);
            check.isNotSo("2: isOn()", x.isOn(r));
            check.same("2: conditions()", x.conditions(r), 0);
            check.same("2: actions()", x.actions(r), 0);
            check.same("2: firings()", x.firings(r), 0);
        }
        check.refusesState("2: a seventh rule", x, () -> x.addRule(0));
        check.refusesArgument("2: urgency ahead of the seventh", x, () -> x.addRule(10));
    }

    private static void promise3() {
        RuleForge x = new RuleForge();
        x.addRule(0);
        x.addRule(0);
        check.same("3: first", x.addCondition(0, EACH, 0, 1), 0);
        check.same("3: second", x.addCondition(0, EACH, 7, 6), 1);
        check.same("3: third", x.addCondition(0, EACH, 3, 2), 2);
        check.refusesState("3: a fourth EACH", x, () -> x.addCondition(0, EACH, 0, 1));
        check.same("3: conditions()", x.conditions(0), 3);
        check.same("3: fourth, NONE", x.addCondition(0, NONE, 1, 1), 3);
        check.refusesState("3: a fifth", x, () -> x.addCondition(0, AT_LEAST, 1, 1));
        check.same("3: conditions()", x.conditions(0), 4);
        check.same("3: of the other rule", x.conditions(1), 0);
        check.same("3: AT LEAST", x.addCondition(1, AT_LEAST, 1, 6), 0);
        check.same("3: AT LEAST", x.addCondition(1, AT_LEAST, 1, 1), 1);
        check.same("3: NONE", x.addCondition(1, NONE, 1, 1), 2);
        check.same("3: NONE", x.addCondition(1, NONE, 1, 1), 3);
        check.refusesState("3: a fifth without any EACH", x, () -> x.addCondition(1, EACH, 1, 1));
    }

    private static void promise3Bounds() {
        RuleForge x = new RuleForge();
        check.refusesIndex("3: no rules", x, () -> x.addCondition(0, EACH, 0, 1));
        x.addRule(0);
        check.refusesIndex("3: rule -1", x, () -> x.addCondition(-1, EACH, 0, 1));
        check.refusesIndex("3: rule 1", x, () -> x.addCondition(1, EACH, 0, 1));
        check.refusesIndex("3: rule ahead of the rest", x, () -> x.addCondition(1, 3, 8, 0));
        check.refusesArgument("3: sort -1", x, () -> x.addCondition(0, -1, 0, 1));
        check.refusesArgument("3: sort 3", x, () -> x.addCondition(0, 3, 0, 1));
        check.refusesArgument("3: kind -1", x, () -> x.addCondition(0, EACH, -1, 1));
        check.refusesArgument("3: kind 8", x, () -> x.addCondition(0, EACH, 8, 1));
        check.refusesArgument("3: n 0", x, () -> x.addCondition(0, EACH, 0, 0));
        check.refusesArgument("3: n 7", x, () -> x.addCondition(0, NONE, 0, 7));
        x.addCondition(0, EACH, 0, 1);
        x.switchOn(0);
        check.refusesState("3: on", x, () -> x.addCondition(0, EACH, 0, 1));
        check.refusesArgument("3: kind ahead of on", x, () -> x.addCondition(0, EACH, 8, 1));
        check.same("3: conditions()", x.conditions(0), 1);
    }

    private static void promise4() {
        RuleForge x = new RuleForge();
        x.addRule(0);
        x.addCondition(0, EACH, 0, 1);
        x.addCondition(0, NONE, 0, 1);
        check.same("4: at first 0", x.setTest(0, 0, 0, 3, 5), 0);
        check.same("4: the one that was there", x.setTest(0, 0, 0, 2, -999), 3);
        check.same("4: another slot", x.setTest(0, 0, 2, 1, 999), 0);
        check.same("4: another condition", x.setTest(0, 1, 0, 7, 5), 0);
        check.same("4: the one that was there", x.setTest(0, 1, 0, 0, 0), 7);
        check.same("4: back to 0", x.setTest(0, 0, 0, 0, 17), 2);
        check.same("4: the number counts too", x.setTest(0, 0, 2, 1, 4), 1);
        x.state(0, 0, 0, 4);
        x.state(0, 0, 0, 999);
        check.same("4: number 4", x.candidates(0, 0), 1);
    }

    private static void promise4Bounds() {
        RuleForge x = new RuleForge();
        x.addRule(0);
        check.refusesIndex("4: no condition", x, () -> x.setTest(0, 0, 0, 0, 0));
        x.addCondition(0, EACH, 0, 1);
        check.refusesIndex("4: rule 1", x, () -> x.setTest(1, 0, 0, 0, 0));
        check.refusesIndex("4: rule -1", x, () -> x.setTest(-1, 0, 0, 0, 0));
        check.refusesIndex("4: condition 1", x, () -> x.setTest(0, 1, 0, 0, 0));
        check.refusesIndex("4: condition -1", x, () -> x.setTest(0, -1, 0, 0, 0));
        check.refusesIndex("4: condition ahead of slot", x, () -> x.setTest(0, 1, 3, 8, 1000));
        check.refusesArgument("4: slot -1", x, () -> x.setTest(0, 0, -1, 0, 0));
        check.refusesArgument("4: slot 3", x, () -> x.setTest(0, 0, 3, 0, 0));
        check.refusesArgument("4: test -1", x, () -> x.setTest(0, 0, 0, -1, 0));
        check.refusesArgument("4: test 8", x, () -> x.setTest(0, 0, 0, 8, 0));
        check.refusesArgument("4: v 1000", x, () -> x.setTest(0, 0, 0, 0, 1000));
        check.refusesArgument("4: v -1000", x, () -> x.setTest(0, 0, 0, 3, -1000));
        check.refusesArgument("4: variable 6", x, () -> x.setTest(0, 0, 0, 4, 6));
        check.refusesArgument("4: variable -1", x, () -> x.setTest(0, 0, 0, 7, -1));
        check.same("4: variable 5 and number -1 are fine", x.setTest(0, 0, 0, 4, 5) + x.setTest(0, 0, 1, 3, -1), 0);
        x.switchOn(0);
        check.refusesState("4: on", x, () -> x.setTest(0, 0, 0, 0, 0));
        check.refusesArgument("4: slot ahead of on", x, () -> x.setTest(0, 0, 3, 0, 0));
        x.switchOff(0);
        check.same("4: nothing was changed", x.setTest(0, 0, 0, 0, 0), 4);
    }

    private static void promise5() {
        RuleForge x = new RuleForge();
        x.addRule(0);
        check.refusesIndex("5: rule 1", x, () -> x.addTold(1, true, 8));
        check.refusesIndex("5: rule -1", x, () -> x.addTold(-1, true, 0));
        check.refusesArgument("5: kind 8", x, () -> x.addTold(0, true, 8));
        check.refusesArgument("5: kind -1", x, () -> x.addTold(0, false, -1));
        check.same("5: first", x.addTold(0, true, 7), 0);
        check.same("5: second", x.addTold(0, false, 0), 1);
        check.same("5: without a variable", x.setValue(0, 1, 2, -1, 0), -1);
        check.same("5: third", x.addTold(0, false, 1), 2);
        check.same("5: actions()", x.actions(0), 3);
        check.refusesState("5: a fourth", x, () -> x.addTold(0, true, 1));
        check.refusesArgument("5: kind ahead of a fourth", x, () -> x.addTold(0, true, 8));
        x.addRule(0);
        x.addCondition(1, NONE, 5, 1);
        x.addTold(1, false, 3);
        x.addTold(1, true, 4);
        x.switchOn(1);
        check.refusesState("5: on", x, () -> x.addTold(1, true, 1));
        x.fire(1);
        check.isSo("5: STATE, all values 0", x.isStated(x.find(3, 0, 0, 0)));
        check.isNotSo("5: SUPPORT, all values 0", x.isStated(x.find(4, 0, 0, 0)));
    }

    private static void promise6() {
        RuleForge x = new RuleForge();
        x.addRule(0);
        x.addCondition(0, EACH, 0, 1);
        check.refusesIndex("6: no action", x, () -> x.setValue(0, 0, 0, 0, 0));
        x.addTold(0, true, 1);
        x.addRetract(0, 0);
        check.refusesIndex("6: rule 1", x, () -> x.setValue(1, 0, 0, 0, 0));
        check.refusesIndex("6: action 2", x, () -> x.setValue(0, 2, 3, 6, 1000));
        check.refusesIndex("6: action -1", x, () -> x.setValue(0, -1, 0, 0, 0));
        check.refusesArgument("6: slot 3", x, () -> x.setValue(0, 0, 3, 0, 0));
        check.refusesArgument("6: slot -1", x, () -> x.setValue(0, 0, -1, 0, 0));
        check.refusesArgument("6: variable 6", x, () -> x.setValue(0, 0, 0, 6, 0));
        check.refusesArgument("6: variable -2", x, () -> x.setValue(0, 0, 0, -2, 0));
        check.refusesArgument("6: plus 1000", x, () -> x.setValue(0, 0, 0, 0, 1000));
        check.refusesArgument("6: plus -1000", x, () -> x.setValue(0, 0, 0, 0, -1000));
        check.refusesArgument("6: slot ahead of RETRACT", x, () -> x.setValue(0, 1, 3, 0, 0));
        check.refusesState("6: RETRACT", x, () -> x.setValue(0, 1, 0, 0, 0));
        check.same("6: none at first", x.setValue(0, 0, 0, 5, 999), -1);
        check.same("6: the one that was there", x.setValue(0, 0, 0, 2, -999), 5);
        check.same("6: another slot", x.setValue(0, 0, 1, 0, 3), -1);
        check.same("6: the one that was there", x.setValue(0, 0, 0, -1, -7), 2);
        check.isNotSo("6: variable 0 is not bound", x.isSound(0));
        x.setTest(0, 0, 2, 4, 0);
        x.switchOn(0);
        check.refusesState("6: on", x, () -> x.setValue(0, 0, 0, 0, 0));
    }

    private static void promise6Told() {
        RuleForge x = new RuleForge();
        x.addRule(0);
        x.addCondition(0, EACH, 0, 1);
        x.setTest(0, 0, 2, 4, 5);
        x.addTold(0, false, 1);
        x.setValue(0, 0, 0, -1, -7);
        x.setValue(0, 0, 1, 5, 3);
        x.setValue(0, 0, 2, 5, -900);
        x.switchOn(0);
        x.state(0, 1, 2, 30);
        x.fire(1);
        check.same("6: -7 alone, 30 + 3, 30 - 900", x.find(1, -7, 33, -870), 1);
        x.state(0, 1, 2, 997);
        x.fire(1);
        check.same("6: not above 999", x.find(1, -7, 999, 97), 3);
        x.state(0, 1, 2, -100);
        x.fire(1);
        check.same("6: not below -999", x.find(1, -7, -97, -999), 5);
    }

    private static void promise7() {
        RuleForge x = new RuleForge();
        x.addRule(0);
        x.addRule(0);
        check.refusesIndex("7: rule 2", x, () -> x.addRetract(2, 4));
        check.refusesIndex("7: rule -1", x, () -> x.addRetract(-1, 0));
        check.refusesArgument("7: condition 4", x, () -> x.addRetract(0, 4));
        check.refusesArgument("7: condition -1", x, () -> x.addRetract(0, -1));
        check.same("7: a condition that is not there yet", x.addRetract(0, 3), 0);
        check.same("7: the same once more", x.addRetract(0, 3), 1);
        check.same("7: condition 0", x.addRetract(0, 0), 2);
        check.same("7: actions()", x.actions(0), 3);
        check.refusesState("7: a fourth", x, () -> x.addRetract(0, 0));
        check.refusesArgument("7: condition ahead of a fourth", x, () -> x.addRetract(0, 4));
        x.addCondition(1, EACH, 2, 1);
        x.addRetract(1, 0);
        x.switchOn(1);
        check.refusesState("7: on", x, () -> x.addRetract(1, 0));
        x.state(2, 1, 1, 1);
        x.fire(1);
        check.same("7: the fact is gone", x.facts(), 0);
    }

    private static void promise8() {
        RuleForge x = new RuleForge();
        check.refusesIndex("8: no rules", x, () -> x.switchOn(0));
        x.addRule(0);
        check.refusesIndex("8: rule 1", x, () -> x.switchOn(1));
        check.refusesIndex("8: rule -1", x, () -> x.switchOn(-1));
        check.refusesState("8: without a condition", x, () -> x.switchOn(0));
        check.isNotSo("8: without a condition", x.isSound(0));
        x.addCondition(0, EACH, 0, 1);
        x.addCondition(0, EACH, 0, 1);
        for (int i = 0; i < 6; i++) {
            x.state(0, i, 0, 0);
        }
        check.same("8: 6 * 6 matches", x.switchOn(0), 36);
        check.isSo("8: isOn()", x.isOn(0));
        check.refusesState("8: on already", x, () -> x.switchOn(0));
        check.same("8: a rule without actions is fine", x.actions(0), 0);
        x.addRule(0);
        x.addCondition(1, EACH, 5, 1);
        check.same("8: no matches", x.switchOn(1), 0);
    }

    private static void promise8Sound() {
        RuleForge x = new RuleForge();
        x.addRule(0);
        x.addCondition(0, NONE, 0, 1);
        check.isSo("8: NONE alone is SOUND", x.isSound(0));
        x.setTest(0, 0, 0, 4, 0);
        check.isNotSo("8: NONE binds nothing", x.isSound(0));
        x.addCondition(0, EACH, 0, 1);
        x.setTest(0, 1, 0, 4, 0);
        check.isNotSo("8: bound behind, not ahead", x.isSound(0));
        x.setTest(0, 0, 0, 0, 0);
        check.isSo("8: bound", x.isSound(0));
        x.setTest(0, 1, 1, 5, 0);
        check.isSo("8: bound in an earlier slot", x.isSound(0));
        x.setTest(0, 1, 0, 6, 1);
        x.setTest(0, 1, 1, 4, 1);
        check.isNotSo("8: bound in a later slot", x.isSound(0));
        x.setTest(0, 1, 0, 4, 1);
        check.isSo("8: test 4 twice, the first one binds", x.isSound(0));
        x.addCondition(0, AT_LEAST, 0, 2);
        x.setTest(0, 2, 2, 7, 1);
        check.isSo("8: used in AT LEAST", x.isSound(0));
        x.setTest(0, 2, 2, 7, 2);
        check.isNotSo("8: another variable", x.isSound(0));
        x.setTest(0, 2, 2, 3, 2);
        x.addTold(0, true, 1);
        x.setValue(0, 0, 2, 1, 0);
        check.isSo("8: an action with a bound variable", x.isSound(0));
        x.setValue(0, 0, 1, 0, 0);
        check.isNotSo("8: an action with another variable", x.isSound(0));
        check.refusesState("8: not SOUND", x, () -> x.switchOn(0));
        x.setValue(0, 0, 1, -1, 0);
        x.addRetract(0, 1);
        check.isSo("8: RETRACT of an EACH", x.isSound(0));
        x.addRetract(0, 2);
        check.isNotSo("8: RETRACT of AT LEAST", x.isSound(0));
        x.addRule(0);
        x.addRetract(1, 1);
        x.addCondition(1, EACH, 0, 1);
        check.isNotSo("8: RETRACT of a condition that is not there", x.isSound(1));
        x.addCondition(1, EACH, 0, 1);
        check.isSo("8: now it is there", x.isSound(1));
    }

    /** Each slot of each action needs its variable, whichever it is. */
    private static void promise8Values() {
        for (int variable = 0; variable < 6; variable++) {
            RuleForge x = new RuleForge();
            x.addRule(0);
            x.addCondition(0, EACH, 0, 1);
            x.addTold(0, true, 1);
            x.addTold(0, false, 1);
            for (int i = 0; i < 6; i++) {
                x.setValue(0, i / 3, i % 3, variable, 0);
                check.isNotSo("8: not bound, slot " + i % 3 + " of action " + i / 3, x.isSound(0));
                x.setValue(0, i / 3, i % 3, -1, 0);
                check.isSo("8: without a variable", x.isSound(0));
            }
            x.setValue(0, 1, 2, variable, 0);
            x.setTest(0, 0, 1, 4, variable);
            check.isSo("8: bound", x.isSound(0));
            x.setTest(0, 0, 1, 4, (variable + 1) % 6);
            check.isNotSo("8: another one is bound", x.isSound(0));
        }
    }

    private static void promise9() {
        RuleForge x = new RuleForge();
        check.refusesIndex("9: no rules", x, () -> x.switchOff(0));
        x.addRule(0);
        check.refusesIndex("9: rule -1", x, () -> x.switchOff(-1));
        check.refusesState("9: off", x, () -> x.switchOff(0));
        x.addCondition(0, EACH, 0, 1);
        x.addTold(0, true, 1);
        x.addRule(0);
        x.addCondition(1, EACH, 1, 1);
        x.addTold(1, true, 2);
        x.addTold(1, false, 3);
        x.switchOn(0);
        x.switchOn(1);
        x.state(0, 0, 0, 0);
        check.same("9: both fire", x.fire(20), 2);
        check.same("9: four facts", x.facts(), 4);
        check.same("9: the two that were SUPPORTED are gone", x.switchOff(0), 2);
        check.isNotSo("9: isOn()", x.isOn(0));
        check.same("9: no matches", x.matches(0), 0);
        check.same("9: firings() stays", x.firings(0), 1);
        check.refusesState("9: off again", x, () -> x.switchOff(0));
        check.same("9: on again, not FIRED", x.switchOn(0), 1);
        check.isNotSo("9: on again, not FIRED", x.hasFired(0, 0));
        check.same("9: on the agenda", x.agenda(), 1);
        check.same("9: without facts that rest on it", x.switchOff(0), 0);
    }

    private static void whileOn() {
        RuleForge x = new RuleForge();
        x.addRule(3);
        x.addCondition(0, EACH, 0, 1);
        x.switchOn(0);
        x.switchOff(0);
        check.same("off, it can be changed", x.addTold(0, true, 1), 0);
        check.same("off, it can be changed", x.addCondition(0, EACH, 0, 1), 1);
        check.same("off, it can be changed", x.setTest(0, 1, 1, 4, 0), 0);
        check.same("off, it can be changed", x.setValue(0, 0, 0, 0, 0), -1);
        check.same("off, it can be changed", x.addRetract(0, 0), 1);
        check.same("and on again", x.switchOn(0), 0);
    }

    private static void asked() {
        RuleForge x = new RuleForge();
        x.addRule(-4);
        x.addCondition(0, EACH, 0, 1);
        x.addTold(0, true, 1);
        for (int r : new int[] {-1, 1, 6, Integer.MAX_VALUE, Integer.MIN_VALUE}) {
            check.refusesIndex("15: isOn(" + r + ")", x, () -> x.isOn(r));
            check.refusesIndex("16: isSound(" + r + ")", x, () -> x.isSound(r));
            check.refusesIndex("17: urgency(" + r + ")", x, () -> x.urgency(r));
            check.refusesIndex("18: conditions(" + r + ")", x, () -> x.conditions(r));
            check.refusesIndex("19: actions(" + r + ")", x, () -> x.actions(r));
            check.refusesIndex("20: candidates(" + r + ", 0)", x, () -> x.candidates(r, 0));
            check.refusesIndex("21: firings(" + r + ")", x, () -> x.firings(r));
        }
        check.same("14: rules()", x.rules(), 1);
        check.isNotSo("15: isOn()", x.isOn(0));
        check.isSo("16: isSound()", x.isSound(0));
        check.same("17: urgency()", x.urgency(0), -4);
        check.same("18: conditions()", x.conditions(0), 1);
        check.same("19: actions()", x.actions(0), 1);
        x.switchOn(0);
        check.isSo("15: isOn()", x.isOn(0));
        check.isSo("16: isSound()", x.isSound(0));
        x.state(0, 1, 0, 0);
        x.state(0, 2, 0, 0);
        check.same("21: firings()", x.firings(0), 0);
        x.fire(1);
        check.same("21: firings()", x.firings(0), 1);
        x.fire(20);
        check.same("21: firings()", x.firings(0), 2);
        x.addRule(9);
        check.same("14: rules()", x.rules(), 2);
        check.same("21: of the other rule", x.firings(1), 0);
    }

    private static void promise20() {
        RuleForge x = new RuleForge();
        x.addRule(0);
        check.refusesIndex("20: no condition", x, () -> x.candidates(0, 0));
        x.addCondition(0, EACH, 2, 1);
        x.addCondition(0, NONE, 2, 1);
        x.addCondition(0, AT_LEAST, 3, 6);
        check.refusesIndex("20: condition 3", x, () -> x.candidates(0, 3));
        check.refusesIndex("20: condition -1", x, () -> x.candidates(0, -1));
        check.same("20: no facts", x.candidates(0, 0), 0);
        for (int i = 1; i <= 5; i++) {
            x.state(2, i, 10 * i, 0);
        }
        x.state(3, 1, 10, 0);
        check.same("20: any of its kind", x.candidates(0, 0), 5);
        x.setTest(0, 0, 0, 3, 2);
        check.same("20: more than 2", x.candidates(0, 0), 3);
        x.setTest(0, 0, 1, 2, 50);
        check.same("20: and less than 50", x.candidates(0, 0), 2);
        x.setTest(0, 0, 1, 1, 50);
        check.same("20: and 50", x.candidates(0, 0), 1);
        x.setTest(0, 0, 1, 7, 0);
        x.setTest(0, 0, 2, 4, 0);
        check.same("20: tests of variables do not count", x.candidates(0, 0), 3);
        check.same("20: NONE", x.candidates(0, 1), 5);
        check.same("20: AT LEAST, whatever n", x.candidates(0, 2), 1);
    }
}
