/** Promises 42 to 46: what would be, and the checksum. */
public final class WouldBeTest {
    private static final int EACH = 0;
    private static final int NONE = 1;

    private static final Check check = new Check();

    public static void main(String[] args) {
        promise42();
        promise43();
        promise43WithoutEnd();
        promise44();
        promise45();
        wrongMost();
        promise46();
        promise46NextRule();
        nothingIsChanged();
        check.end();
    }

    /** A chain: kind 0 SUPPORTs 1, that 2, that 3, all with the same first value. */
    private static RuleForge chain() {
        RuleForge x = new RuleForge();
        for (int r = 0; r < 3; r++) {
            x.addRule(0);
            x.addCondition(r, EACH, r, 1);
            x.setTest(r, 0, 0, 4, 0);
            x.addTold(r, true, r + 1);
            x.setValue(r, 0, 0, 0, 0);
            x.switchOn(r);
        }
        return x;
    }

    private static void promise42() {
        RuleForge x = chain();
        check.same("42: nothing", x.factsBehind(20), 0);
        x.state(0, 5, 0, 0);
        for (int most = 1; most <= 20; most++) {
            check.same("42: factsBehind", x.factsBehind(most), Math.min(4, 1 + most));
        }
        check.same("42: nothing is changed", x.facts() + x.fired() + x.next(), 2);
        x.addRule(9);
        x.addCondition(3, EACH, 0, 1);
        x.addRetract(3, 0);
        x.switchOn(3);
        check.same("42: fewer than now", x.factsBehind(1), 0);
        check.same("42: nothing is changed", x.facts(), 1);
    }

    private static void promise43() {
        RuleForge x = chain();
        check.same("43: empty already", x.firingsToRest(1), 0);
        x.state(0, 5, 0, 0);
        check.same("43: not behind one", x.firingsToRest(1), -1);
        check.same("43: not behind two", x.firingsToRest(2), -1);
        check.same("43: just behind three", x.firingsToRest(3), 3);
        check.same("43: three", x.firingsToRest(20), 3);
        x.fire(1);
        check.same("43: two are left", x.firingsToRest(20), 2);
        check.same("43: nothing is changed", x.fired(), 1);
    }

    private static void promise43WithoutEnd() {
        RuleForge x = new RuleForge();
        x.addRule(0);
        x.addCondition(0, NONE, 0, 1);
        x.addTold(0, true, 0);
        x.switchOn(0);
        check.same("43: without an end", x.firingsToRest(20), -1);
        check.same("42: none stays", x.factsBehind(20), 0);
        check.isNotSo("45: none stays", x.wouldHold(0, 0, 0, 0, 20));
        check.same("13: fire", x.fire(20), 20);
        check.same("23: each was there for a moment", x.next(), 20);
        check.same("22: none stays", x.facts(), 0);
    }

    private static void promise44() {
        RuleForge x = chain();
        check.refusesIndex("44: no fact", x, () -> x.wouldGo(0));
        x.state(0, 5, 0, 0);
        x.state(0, 6, 0, 0);
        x.fire(20);
        check.refusesIndex("44: fact -1", x, () -> x.wouldGo(-1));
        check.refusesIndex("44: fact 8", x, () -> x.wouldGo(8));
        check.same("44: all four", x.wouldGo(0), 4);
        check.same("44: nothing is changed", x.facts(), 8);
        int second = x.find(2, 5, 0, 0);
        check.same("44: two", x.wouldGo(second), 2);
        x.state(2, 5, 0, 0);
        check.same("44: up to the one that is STATED", x.wouldGo(0), 2);
        check.same("44: as retract() does", x.retract(0), 2);
        check.refusesIndex("44: gone", x, () -> x.wouldGo(0));
    }

    private static void promise45() {
        RuleForge x = chain();
        x.state(0, 5, 0, 0);
        check.isSo("45: there already", x.wouldHold(0, 5, 0, 0, 1));
        check.isNotSo("45: not behind one", x.wouldHold(2, 5, 0, 0, 1));
        check.isSo("45: behind two", x.wouldHold(2, 5, 0, 0, 2));
        check.isSo("45: behind three", x.wouldHold(3, 5, 0, 0, 3));
        check.isNotSo("45: another value", x.wouldHold(3, 5, 0, 1, 20));
        check.isNotSo("45: no kind", x.wouldHold(8, 5, 0, 0, 20));
        check.isNotSo("45: no kind", x.wouldHold(-1, 5, 0, 0, 20));
        check.isNotSo("45: no value", x.wouldHold(3, 5, 1000, 0, 20));
        check.same("45: nothing is changed", x.facts(), 1);
    }

    private static void wrongMost() {
        RuleForge x = chain();
        x.state(0, 5, 0, 0);
        for (int most : new int[] {0, 21, -1, Integer.MIN_VALUE, Integer.MAX_VALUE}) {
            check.refusesArgument("42: factsBehind(" + most + ")", x, () -> x.factsBehind(most));
            check.refusesArgument("43: firingsToRest(" + most + ")", x, () -> x.firingsToRest(most));
            check.refusesArgument("45: wouldHold(.., " + most + ")", x, () -> x.wouldHold(0, 5, 0, 0, most));
        }
    }

    private static void promise46() {
        RuleForge x = new RuleForge();
        check.same("46: of a new object", x.digest(), digest(0, 0, 0, 0, -1, -1, -1, -1, 0));
        x.addRule(-3);
        check.same("46: with a rule", x.digest(), digest(1, 0, 0, 0, -1, -1, -1, -1, 0,
            0, 0, -3, 0, 0, 0, 0));
        x.addCondition(0, EACH, 1, 1);
        x.addTold(0, true, 2);
        x.setTest(0, 0, 0, 4, 0);
        x.setValue(0, 0, 1, 0, 0);
        x.switchOn(0);
        x.state(0, 0, 0, 0);
        x.state(1, 7, 8, 9);
        x.retract(0);
        check.same("46: on the agenda", x.digest(), digest(1, 1, 2, 1, 0, 1, -1, -1, 0,
            1, 1, -3, 1, 1, 0, 1, 1, 0,
            1, 1, 7, 8, 9, 1, 0, -1, 0, 1));
        x.fire(1);
        check.same("46: fired", x.digest(), digest(1, 2, 3, 0, -1, -1, -1, -1, 1,
            1, 1, -3, 1, 1, 1, 1, 1, 1,
            1, 1, 7, 8, 9, 1, 0, -1, 0, 1,
            2, 2, 0, 7, 0, 0, 1, 0, 1, 0));
    }

    /** The next rule is 1, with three facts; fact 0 is of kind 0. */
    private static void promise46NextRule() {
        RuleForge x = new RuleForge();
        x.addRule(0);
        x.addRule(2);
        x.addCondition(1, EACH, 0, 1);
        x.addCondition(1, EACH, 0, 1);
        x.addCondition(1, EACH, 0, 1);
        x.switchOn(1);
        x.state(0, 1, -1, 2);
        check.same("46: the next rule is 1", x.digest(), digest(2, 1, 1, 1, 1, 0, 0, 0, 0,
            0, 0, 0, 0, 0, 0, 0,
            1, 1, 2, 3, 0, 0, 1, 0, 0, 0, 0,
            0, 0, 1, -1, 2, 1, 0, -1, 0, 1));
    }

    private static long digest(long... numbers) {
        long d = 58028;
        for (long x : numbers) {
            d = d * 31 + x;
        }
        return d;
    }

    private static void nothingIsChanged() {
        RuleForge x = chain();
        RuleForge y = chain();
        for (int i = 0; i < 6; i++) {
            x.state(0, i, 0, 0);
            y.state(0, i, 0, 0);
            x.factsBehind(20);
            x.firingsToRest(7);
            x.wouldGo(0);
            x.wouldHold(3, 1, 0, 0, 9);
            x.fire(2);
            y.fire(2);
            check.same("42 to 45 change nothing", x.digest(), y.digest());
        }
        x.digest();
        check.same("46 changes nothing", x.digest(), y.digest());
        check.same("the rest is the same", x.fire(20), y.fire(20));
        check.same("the rest is the same", x.digest(), y.digest());
    }
}
