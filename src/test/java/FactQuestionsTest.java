/** Promises 22 to 32: facts, asked. */
public final class FactQuestionsTest {
    private static final int EACH = 0;
    private static final int NONE = 1;
    private static final int AT_LEAST = 2;

    private static final Check check = new Check();

    public static void main(String[] args) {
        promises22To28();
        wrongFacts();
        promises29And30();
        promise29Twice();
        promise31Chain();
        promise31Ring();
        promise31WithoutFacts();
        promise31Least();
        promise32();
        firstFactOfFirstKind();
        check.end();
    }

    /** A rule with EACH of the kinds that SUPPORTs a fact of another kind, all values 0. */
    private static int support(RuleForge x, int to, int... from) {
        int rule = x.addRule(0);
        for (int kind : from) {
            x.addCondition(rule, EACH, kind, 1);
        }
        x.addTold(rule, true, to);
        x.switchOn(rule);
        return rule;
    }

    private static void promises22To28() {
        RuleForge x = new RuleForge();
        check.same("25: no facts", x.find(0, 0, 0, 0), -1);
        check.isNotSo("24: no facts", x.isThere(0));
        x.state(3, 1, -2, 999);
        x.state(3, 1, -2, 998);
        x.state(2, 1, -2, 999);
        check.same("22: facts()", x.facts(), 3);
        check.same("23: next()", x.next(), 3);
        check.isSo("24: isThere(0)", x.isThere(0));
        check.isSo("24: isThere(2)", x.isThere(2));
        check.isNotSo("24: isThere(3)", x.isThere(3));
        check.isNotSo("24: isThere(-1)", x.isThere(-1));
        check.isNotSo("24: isThere(least)", x.isThere(Integer.MIN_VALUE));
        check.same("25: find", x.find(3, 1, -2, 999), 0);
        check.same("25: find", x.find(3, 1, -2, 998), 1);
        check.same("25: find", x.find(2, 1, -2, 999), 2);
        check.same("25: another a", x.find(3, 0, -2, 999), -1);
        check.same("25: another b", x.find(3, 1, 2, 999), -1);
        check.same("25: another c", x.find(3, 1, -2, 997), -1);
        check.same("25: another kind", x.find(4, 1, -2, 999), -1);
        check.same("25: no kind", x.find(-1, 1, -2, 999), -1);
        check.same("25: no kind", x.find(8, 1, -2, 999), -1);
        check.same("25: no kind", x.find(Integer.MAX_VALUE, 1, -2, 999), -1);
        check.same("25: no value", x.find(3, 1, -2, 1000), -1);
        check.same("26: kindOf", x.kindOf(0), 3);
        check.same("26: kindOf", x.kindOf(2), 2);
        check.same("27: valueOf 0", x.valueOf(0, 0), 1);
        check.same("27: valueOf 1", x.valueOf(0, 1), -2);
        check.same("27: valueOf 2", x.valueOf(0, 2), 999);
        check.same("27: valueOf 2", x.valueOf(1, 2), 998);
        check.isSo("28: isStated", x.isStated(1));
        x.retract(0);
        check.same("22: facts()", x.facts(), 2);
        check.same("23: next() stays", x.next(), 3);
        check.isNotSo("24: gone", x.isThere(0));
        check.same("25: gone", x.find(3, 1, -2, 999), -1);
        x.state(3, 5, 5, 5);
        check.isNotSo("24: gone, though another came", x.isThere(0));
        check.same("25: find", x.find(3, 5, 5, 5), 3);
        check.same("27: of the one that came", x.valueOf(3, 1), 5);
    }

    private static void wrongFacts() {
        RuleForge x = new RuleForge();
        x.state(0, 0, 0, 0);
        x.state(0, 0, 0, 1);
        x.retract(0);
        for (int f : new int[] {-1, 0, 2, 48, Integer.MAX_VALUE, Integer.MIN_VALUE}) {
            check.refusesIndex("26: kindOf(" + f + ")", x, () -> x.kindOf(f));
            check.refusesIndex("27: valueOf(" + f + ", 0)", x, () -> x.valueOf(f, 0));
            check.refusesIndex("28: isStated(" + f + ")", x, () -> x.isStated(f));
            check.refusesIndex("29: supports(" + f + ")", x, () -> x.supports(f));
            check.refusesIndex("30: because(" + f + ")", x, () -> x.because(f));
            check.refusesIndex("31: distance(" + f + ")", x, () -> x.distance(f));
            check.refusesIndex("32: uses(" + f + ")", x, () -> x.uses(f));
        }
        check.refusesIndex("27: slot 3", x, () -> x.valueOf(1, 3));
        check.refusesIndex("27: slot -1", x, () -> x.valueOf(1, -1));
        check.same("27: slot 2", x.valueOf(1, 2), 1);
    }

    private static void promises29And30() {
        RuleForge x = new RuleForge();
        support(x, 7, 1);
        support(x, 7, 0);
        x.state(0, 0, 0, 0);
        check.same("29: STATED alone", x.supports(0), 0);
        check.same("30: STATED alone", x.because(0), -1);
        x.fire(20);
        check.same("29: by one", x.supports(1), 1);
        check.same("30: rule 1", x.because(1), 1);
        check.isNotSo("28: SUPPORTED alone", x.isStated(1));
        x.state(1, 0, 0, 0);
        x.state(1, 1, 0, 0);
        x.fire(20);
        check.same("29: by three", x.supports(1), 3);
        check.same("30: the smaller rule", x.because(1), 0);
        x.switchOff(0);
        check.same("29: by one", x.supports(1), 1);
        check.same("30: rule 1", x.because(1), 1);
        check.same("41: one of four facts by one", x.meanSupports(), 0.25);
    }

    private static void promise29Twice() {
        RuleForge x = new RuleForge();
        x.addRule(0);
        x.addCondition(0, EACH, 0, 1);
        x.addTold(0, true, 1);
        x.addTold(0, true, 1);
        x.addTold(0, true, 1);
        x.switchOn(0);
        x.state(0, 0, 0, 0);
        x.fire(20);
        check.same("29: each match counts once", x.supports(1), 1);
        check.same("22: facts()", x.facts(), 2);
    }

    private static void promise31Chain() {
        RuleForge x = new RuleForge();
        support(x, 1, 0);
        support(x, 2, 1, 0);
        support(x, 3, 2, 1, 0);
        x.state(0, 0, 0, 0);
        check.same("31: STATED", x.distance(0), 0);
        x.fire(20);
        check.same("31: one", x.distance(x.find(1, 0, 0, 0)), 1);
        check.same("31: two", x.distance(x.find(2, 0, 0, 0)), 2);
        check.same("31: three, the greatest counts", x.distance(x.find(3, 0, 0, 0)), 3);
        x.state(1, 0, 0, 0);
        check.same("31: STATED too", x.distance(x.find(1, 0, 0, 0)), 0);
        check.same("31: nearer", x.distance(x.find(2, 0, 0, 0)), 1);
        check.same("31: nearer", x.distance(x.find(3, 0, 0, 0)), 2);
    }

    private static void promise31Ring() {
        RuleForge x = new RuleForge();
        support(x, 2, 1);
        support(x, 1, 2);
        support(x, 3, 2);
        x.state(1, 0, 0, 0);
        x.fire(20);
        check.same("31: next to what is STATED", x.distance(1), 1);
        check.same("11: the ring stays", x.takeBack(0), 0);
        check.same("31: in a ring", x.distance(0), -1);
        check.same("31: in a ring", x.distance(1), -1);
        check.same("31: behind a ring", x.distance(x.find(3, 0, 0, 0)), -1);
        check.same("30: in a ring", x.because(0), 1);
        x.state(2, 0, 0, 0);
        check.same("31: STATED in the ring", x.distance(0), 1);
        check.same("31: STATED in the ring", x.distance(1), 0);
        check.same("31: behind the ring", x.distance(x.find(3, 0, 0, 0)), 1);
    }

    private static void promise31WithoutFacts() {
        RuleForge x = new RuleForge();
        x.addRule(0);
        x.addCondition(0, NONE, 0, 1);
        x.addTold(0, true, 1);
        x.switchOn(0);
        support(x, 2, 1);
        x.fire(20);
        check.same("31: a match without facts", x.distance(0), 1);
        check.same("31: behind that", x.distance(1), 2);
        check.same("12: both go if there is a fact of kind 0", x.facts(), 2);
        x.state(0, 0, 0, 0);
        check.same("12: both are gone", x.facts(), 1);
    }

    private static void promise31Least() {
        RuleForge x = new RuleForge();
        support(x, 1, 0);
        support(x, 2, 1);
        support(x, 3, 2);
        int shortcut = support(x, 3, 4);
        x.state(0, 0, 0, 0);
        x.state(4, 0, 0, 0);
        x.fire(20);
        int far = x.find(3, 0, 0, 0);
        check.same("29: by two", x.supports(far), 2);
        check.same("31: the least counts", x.distance(far), 1);
        x.switchOff(shortcut);
        check.same("31: the long way", x.distance(far), 3);
        check.same("30: the rule that is left", x.because(far), 2);
    }

    private static void promise32() {
        RuleForge x = new RuleForge();
        x.addRule(0);
        x.addCondition(0, EACH, 0, 1);
        x.addCondition(0, EACH, 0, 1);
        x.addRule(0);
        x.addCondition(1, EACH, 0, 1);
        x.addCondition(1, AT_LEAST, 1, 1);
        x.addRule(0);
        x.addCondition(2, AT_LEAST, 0, 1);
        x.switchOn(0);
        x.switchOn(1);
        x.switchOn(2);
        x.state(0, 0, 0, 0);
        check.same("32: twice in one match counts once, AT LEAST does not count", x.uses(0), 1);
        x.state(0, 1, 0, 0);
        check.same("32: of four matches three have it", x.uses(0), 3);
        x.state(1, 0, 0, 0);
        check.same("32: one more rule", x.uses(0), 4);
        check.same("32: AT LEAST does not count", x.uses(2), 0);
        x.fire(20);
        check.same("32: FIRED or not", x.uses(0), 4);
        x.switchOff(0);
        check.same("32: of rule 1 alone", x.uses(1), 1);
    }

    /** Number 0 and kind 0, and SUPPORTED: it counts like any other. */
    private static void firstFactOfFirstKind() {
        RuleForge x = new RuleForge();
        x.addRule(0);
        x.addCondition(0, NONE, 7, 1);
        x.addTold(0, true, 0);
        x.switchOn(0);
        support(x, 1, 0);
        x.fire(20);
        check.isSo("24: fact 0", x.isThere(0));
        check.same("25: fact 0", x.find(0, 0, 0, 0), 0);
        check.same("26: fact 0", x.kindOf(0), 0);
        check.isNotSo("28: fact 0", x.isStated(0));
        check.same("29: fact 0", x.supports(0), 1);
        check.same("30: fact 0", x.because(0), 0);
        check.same("31: fact 0", x.distance(0), 1);
        check.same("31: behind fact 0", x.distance(1), 2);
        check.same("32: fact 0", x.uses(0), 1);
        check.same("41: both are SUPPORTED", x.meanSupports(), 1.0);
        check.isSo("45: fact 0", x.wouldHold(0, 0, 0, 0, 1));
        support(x, 2, 3);
        support(x, 3, 2);
        x.state(3, 0, 0, 0);
        x.fire(20);
        x.takeBack(x.find(3, 0, 0, 0));
        check.same("31: in a ring, with fact 0 beside it", x.distance(x.find(3, 0, 0, 0)), -1);
        x.switchOff(0);
        check.isNotSo("24: gone", x.isThere(0));
        check.same("22: the ring stays", x.facts(), 2);
    }
}
