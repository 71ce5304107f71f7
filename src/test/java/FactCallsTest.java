/** Promises 10 to 13: facts stated, taken back and retracted, and firing. */
public final class FactCallsTest {
    private static final int EACH = 0;

    private static final Check check = new Check();

    public static void main(String[] args) {
        promise10();
        promise10Full();
        promise11();
        promise12();
        promise13();
        readme();
        check.end();
    }

    /** A rule with EACH of a kind that SUPPORTs (or STATEs) one of another with the same first value. */
    private static int follow(RuleForge x, int from, boolean isSupport, int to) {
        int rule = x.addRule(0);
        x.addCondition(rule, EACH, from, 1);
        x.setTest(rule, 0, 0, 4, 0);
        x.addTold(rule, isSupport, to);
        x.setValue(rule, 0, 0, 0, 0);
        x.switchOn(rule);
        return rule;
    }

    private static void promise10() {
        RuleForge x = new RuleForge();
        check.refusesArgument("10: kind 8", x, () -> x.state(8, 0, 0, 0));
        check.refusesArgument("10: kind -1", x, () -> x.state(-1, 0, 0, 0));
        check.refusesArgument("10: a 1000", x, () -> x.state(0, 1000, 0, 0));
        check.refusesArgument("10: b -1000", x, () -> x.state(0, 0, -1000, 0));
        check.refusesArgument("10: c 1000", x, () -> x.state(0, 0, 0, 1000));
        check.refusesArgument("10: c least", x, () -> x.state(0, 0, 0, Integer.MIN_VALUE));
        check.same("10: first", x.state(0, 999, -999, 0), 0);
        check.same("10: second", x.state(7, 999, -999, 0), 1);
        check.same("10: the same again", x.state(0, 999, -999, 0), 0);
        check.same("10: next() stays by that", x.next(), 2);
        check.same("10: another value", x.state(0, 999, -999, 1), 2);
        x.retract(0);
        check.same("10: gone, it comes with a new number", x.state(0, 999, -999, 0), 3);
        follow(x, 1, true, 2);
        x.state(1, 5, 0, 0);
        x.fire(20);
        int told = x.find(2, 5, 0, 0);
        check.isNotSo("10: SUPPORTED alone", x.isStated(told));
        check.same("10: one that is SUPPORTED", x.state(2, 5, 0, 0), told);
        check.isSo("10: is STATED too", x.isStated(told));
        check.same("10: and still SUPPORTED", x.supports(told), 1);
    }

    private static void promise10Full() {
        RuleForge x = new RuleForge();
        for (int i = 0; i < 6; i++) {
            x.state(4, i, 0, 0);
        }
        check.refusesState("10: a seventh of the kind", x, () -> x.state(4, 6, 0, 0));
        check.refusesArgument("10: value ahead of a seventh", x, () -> x.state(4, 1000, 0, 0));
        check.same("10: one that is there", x.state(4, 3, 0, 0), 3);
        check.same("10: of another kind", x.state(5, 6, 0, 0), 6);
        x.retract(2);
        check.same("10: there is room again", x.state(4, 6, 0, 0), 7);
        check.same("10: 6 of it", x.facts(), 7);
    }

    private static void promise11() {
        RuleForge x = new RuleForge();
        check.refusesIndex("11: no fact", x, () -> x.takeBack(0));
        follow(x, 0, true, 1);
        follow(x, 1, true, 2);
        x.state(0, 1, 0, 0);
        x.fire(20);
        check.refusesIndex("11: fact -1", x, () -> x.takeBack(-1));
        check.refusesIndex("11: fact 3", x, () -> x.takeBack(3));
        check.refusesState("11: SUPPORTED alone", x, () -> x.takeBack(1));
        x.state(1, 1, 0, 0);
        check.same("11: it is SUPPORTED and stays", x.takeBack(1), 0);
        check.isNotSo("11: STATED no more", x.isStated(1));
        check.refusesState("11: twice", x, () -> x.takeBack(1));
        x.state(1, 1, 0, 0);
        check.same("11: the one behind it is STATED", x.takeBack(0), 1);
        check.same("11: so two stay", x.facts(), 2);
        check.same("11: and go together", x.takeBack(1), 2);
        check.refusesIndex("11: gone", x, () -> x.takeBack(0));
        check.same("11: next()", x.next(), 3);
    }

    private static void promise12() {
        RuleForge x = new RuleForge();
        check.refusesIndex("12: no fact", x, () -> x.retract(0));
        follow(x, 0, true, 1);
        follow(x, 1, true, 2);
        follow(x, 2, false, 3);
        x.state(0, 1, 0, 0);
        check.same("12: three fire", x.fire(20), 3);
        check.refusesIndex("12: fact -1", x, () -> x.retract(-1));
        check.refusesIndex("12: fact 4", x, () -> x.retract(4));
        check.same("12: one that is SUPPORTED, with one that rests on it", x.retract(1), 2);
        check.same("12: nothing comes again by itself", x.agenda(), 0);
        check.same("12: two are left", x.facts(), 2);
        check.same("12: one that is STATED", x.retract(3), 1);
        check.refusesIndex("12: gone", x, () -> x.retract(3));
        check.same("12: the last", x.retract(0), 1);
        check.same("12: none is left", x.facts(), 0);
    }

    private static void promise13() {
        RuleForge x = new RuleForge();
        check.refusesArgument("13: most 0", x, () -> x.fire(0));
        check.refusesArgument("13: most 21", x, () -> x.fire(21));
        check.refusesArgument("13: most least", x, () -> x.fire(Integer.MIN_VALUE));
        check.same("13: empty", x.fire(1), 0);
        x.addRule(0);
        x.addCondition(0, EACH, 0, 1);
        x.addCondition(0, EACH, 0, 1);
        x.switchOn(0);
        for (int i = 0; i < 6; i++) {
            x.state(0, i, 0, 0);
        }
        check.same("13: one", x.fire(1), 1);
        check.same("13: agenda()", x.agenda(), 35);
        check.same("13: twenty", x.fire(20), 20);
        check.same("13: the rest", x.fire(20), 15);
        check.same("13: fired()", x.fired(), 36);
        check.same("13: none", x.fire(20), 0);
        // this one takes its own ground away and gets it again, with a new number, without an end
        x.addRule(9);
        x.addCondition(1, EACH, 5, 1);
        x.addRetract(1, 0);
        x.addTold(1, false, 5);
        x.switchOn(1);
        x.state(5, 0, 0, 0);
        check.same("13: without an end", x.fire(20), 20);
        check.same("13: fact 6 and twenty more were there", x.next(), 27);
    }

    private static void readme() {
        RuleForge forge = new RuleForge();
        int rule = forge.addRule(0);
        int parent = forge.addCondition(rule, 0, 1, 1);
        forge.setTest(rule, parent, 0, 4, 0);
        int told = forge.addTold(rule, true, 2);
        forge.setValue(rule, told, 0, 0, 5);
        forge.switchOn(rule);
        int cause = forge.state(1, 7, 0, 0);
        check.same("README: fire", forge.fire(20), 1);
        check.same("README: find", forge.find(2, 12, 0, 0), 1);
        check.same("README: takeBack", forge.takeBack(cause), 2);
    }
}
