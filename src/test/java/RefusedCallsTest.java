import java.util.ArrayList;
import java.util.List;

/**
 * "A method that throws an exception changes nothing.": two engines go the same way, one with all refused calls
 * between its steps, the other without any; they answer alike to the end (promises 2 to 13, 15 to 21, 26 to 36
 * and 42 to 45). This looks from outside alone; Check.refuses looks at the fields.
 */
public final class RefusedCallsTest {
    private static final int EACH = 0;
    private static final int NONE = 1;
    private static final int AT_LEAST = 2;

    private static final Check check = new Check();
    private static int refused = 0;

    private interface Call {
        void run(RuleForge x);
    }

    public static void main(String[] args) {
        for (int at = 0; at <= steps().size(); at++) {
            twoGoTheSameWay(at, RefusedCallsTest::pesterRules);
            twoGoTheSameWay(at, RefusedCallsTest::pesterFacts);
        }
        check.isSo("enough calls were refused: " + refused, refused > 10000);
        check.end();
    }

    /** The refused calls, half of them at a time, come ahead of one step alone: few enough for one object. */
    private static void twoGoTheSameWay(int at, Call pester) {
        RuleForge plain = new RuleForge();
        RuleForge pestered = new RuleForge();
        List<Call> steps = steps();
        for (int i = 0; i <= steps.size(); i++) {
            if (i == at) {
                pester.run(pestered);
                check.same("2 to 45: alike ahead of step " + at, pestered.digest(), plain.digest());
            }
            if (i < steps.size()) {
                steps.get(i).run(plain);
                steps.get(i).run(pestered);
            }
        }
        check.same("2 to 45: alike behind step " + at, pestered.digest(), plain.digest());
        check.isSo("13: enough fired", plain.fired() >= 10);
        // what the checksum does not see: the tests of each CONDITION and the variables of each ACTION
        for (int i = 0; i < 72; i++) {
            int r = i / 12;
            int c = i / 3 % 4;
            check.same("4: the test that was there", pestered.setTest(r, c, i % 3, 0, 0), plain.setTest(r, c, i % 3, 0, 0));
        }
        for (int i = 0; i < 36; i++) {
            int r = i / 6;
            int a = i / 3 % 2;
            check.same("6: the variable that was there", pestered.setValue(r, a, i % 3, -1, 0),
                plain.setValue(r, a, i % 3, -1, 0));
        }
    }

    private static int oldest(RuleForge x) {
        int fact = 0;
        while (fact < x.next() && !x.isThere(fact)) {
            fact++;
        }
        return fact;
    }

    /** Builds six rules, has them fire, and switches them off again. */
    private static List<Call> steps() {
        List<Call> steps = new ArrayList<>();
        for (int rule = 0; rule < 6; rule++) {
            int r = rule;
            steps.add(x -> x.addRule(r - 3));
            steps.add(x -> x.addCondition(r, EACH, r % 3, 1));
            steps.add(x -> x.setTest(r, 0, 0, 4, r));
            steps.add(x -> x.addCondition(r, AT_LEAST, (r + 1) % 3, 1 + r % 2));
            steps.add(x -> x.setTest(r, 1, 2, 2, 500));
            steps.add(x -> x.addTold(r, true, (r + 1) % 3));
            steps.add(x -> x.setValue(r, 0, 0, r, 1));
            steps.add(x -> x.addTold(r, false, 3 + r % 3));
            steps.add(x -> x.setValue(r, 1, 2, r, -r));
            steps.add(x -> x.addCondition(r, EACH, r % 2, 1));
            steps.add(x -> x.setTest(r, 2, 0, 7, r));
            if (r < 5) {
                steps.add(x -> x.addTold(r, true, 6));
            } else {
                steps.add(x -> x.addRetract(r, 2));
            }
            steps.add(x -> x.addCondition(r, NONE, 7, 6));
            steps.add(x -> x.switchOn(r));
        }
        for (int i = 0; i < 6; i++) {
            int value = i;
            steps.add(x -> x.state(value % 3, value, 0, value));
        }
        for (int i = 0; i < 8; i++) {
            steps.add(x -> x.fire(3));
        }
        steps.add(x -> x.retract(oldest(x)));
        steps.add(x -> x.state(7, 0, 0, 0));
        steps.add(x -> x.retract(x.find(7, 0, 0, 0)));
        steps.add(x -> x.fire(20));
        for (int rule = 0; rule < 6; rule++) {
            int r = rule;
            steps.add(x -> x.switchOff(r));
        }
        return steps;
    }

    /** All that is refused about the rules that are there. */
    private static void pesterRules(RuleForge x) {
        for (int rule = 0; rule < x.rules(); rule++) {
            int r = rule;
            wrongArguments(x, r, IllegalArgumentException.class);
            if (x.isOn(r)) {
                whileOn(x, r);
            } else {
                refuse(x, IllegalStateException.class, y -> y.switchOff(r));
            }
            refuse(x, IndexOutOfBoundsException.class, y -> y.setTest(r, y.conditions(r), 0, 1, 1));
            refuse(x, IndexOutOfBoundsException.class, y -> y.setValue(r, y.actions(r), 0, 1, 1));
            refuse(x, IndexOutOfBoundsException.class, y -> y.candidates(r, y.conditions(r)));
            refuse(x, IndexOutOfBoundsException.class, y -> y.factOf(r, y.matches(r), 0));
            refuse(x, IndexOutOfBoundsException.class, y -> y.hasFired(r, y.matches(r)));
            refuse(x, IndexOutOfBoundsException.class, y -> y.variableOf(r, y.matches(r), 0));
        }
    }

    /** All that is refused about facts, and about a rule that is not there. */
    private static void pesterFacts(RuleForge x) {
        int none = x.rules();
        wrongArguments(x, none, IndexOutOfBoundsException.class);
        whileOff(x, none);
        refuse(x, IllegalArgumentException.class, y -> y.addRule(10));
        if (none == 6) {
            refuse(x, IllegalStateException.class, y -> y.addRule(0));
        }
        noFact(x, x.next());
        noFact(x, -1);
        wrongFacts(x);
    }

    private static void wrongArguments(RuleForge x, int r, Class<? extends RuntimeException> due) {
        refuse(x, due, y -> y.addCondition(r, 3, 0, 1));
        refuse(x, due, y -> y.addCondition(r, EACH, 8, 1));
        refuse(x, due, y -> y.addCondition(r, AT_LEAST, 0, 7));
        refuse(x, due, y -> y.addTold(r, true, -1));
        refuse(x, due, y -> y.addRetract(r, 4));
        if (r == x.rules() || x.conditions(r) > 0) {
            refuse(x, due, y -> y.setTest(r, 0, 3, 1, 1));
            refuse(x, due, y -> y.setTest(r, 0, 0, 8, 1));
            refuse(x, due, y -> y.setTest(r, 0, 0, 1, 1000));
            refuse(x, due, y -> y.setTest(r, 0, 0, 4, 6));
        }
        if (r == x.rules() || x.actions(r) > 0) {
            refuse(x, due, y -> y.setValue(r, 0, 3, 1, 1));
            refuse(x, due, y -> y.setValue(r, 0, 0, 6, 1));
            refuse(x, due, y -> y.setValue(r, 0, 0, 1, -1000));
        }
    }

    private static void whileOn(RuleForge x, int r) {
        refuse(x, IllegalStateException.class, y -> y.addCondition(r, EACH, 0, 1));
        refuse(x, IllegalStateException.class, y -> y.setTest(r, 0, 0, 1, 1));
        refuse(x, IllegalStateException.class, y -> y.addTold(r, true, 0));
        refuse(x, IllegalStateException.class, y -> y.setValue(r, 0, 0, 1, 1));
        refuse(x, IllegalStateException.class, y -> y.addRetract(r, 0));
        refuse(x, IllegalStateException.class, y -> y.switchOn(r));
    }

    private static void whileOff(RuleForge x, int none) {
        refuse(x, IndexOutOfBoundsException.class, y -> y.switchOn(none));
        refuse(x, IndexOutOfBoundsException.class, y -> y.switchOff(none));
        refuse(x, IndexOutOfBoundsException.class, y -> y.isOn(none));
        refuse(x, IndexOutOfBoundsException.class, y -> y.isSound(none));
        refuse(x, IndexOutOfBoundsException.class, y -> y.urgency(none));
        refuse(x, IndexOutOfBoundsException.class, y -> y.conditions(none));
        refuse(x, IndexOutOfBoundsException.class, y -> y.actions(none));
        refuse(x, IndexOutOfBoundsException.class, y -> y.firings(none));
        refuse(x, IndexOutOfBoundsException.class, y -> y.matches(none));
    }

    private static void noFact(RuleForge x, int fact) {
        refuse(x, IndexOutOfBoundsException.class, y -> y.takeBack(fact));
        refuse(x, IndexOutOfBoundsException.class, y -> y.retract(fact));
        refuse(x, IndexOutOfBoundsException.class, y -> y.kindOf(fact));
        refuse(x, IndexOutOfBoundsException.class, y -> y.valueOf(fact, 0));
        refuse(x, IndexOutOfBoundsException.class, y -> y.isStated(fact));
        refuse(x, IndexOutOfBoundsException.class, y -> y.supports(fact));
        refuse(x, IndexOutOfBoundsException.class, y -> y.because(fact));
        refuse(x, IndexOutOfBoundsException.class, y -> y.distance(fact));
        refuse(x, IndexOutOfBoundsException.class, y -> y.uses(fact));
        refuse(x, IndexOutOfBoundsException.class, y -> y.wouldGo(fact));
    }

    private static void wrongFacts(RuleForge x) {
        refuse(x, IllegalArgumentException.class, y -> y.state(8, 0, 0, 0));
        refuse(x, IllegalArgumentException.class, y -> y.state(0, 1000, 0, 0));
        refuse(x, IllegalArgumentException.class, y -> y.fire(0));
        refuse(x, IllegalArgumentException.class, y -> y.fire(21));
        refuse(x, IllegalArgumentException.class, y -> y.factsBehind(0));
        refuse(x, IllegalArgumentException.class, y -> y.firingsToRest(21));
        refuse(x, IllegalArgumentException.class, y -> y.wouldHold(0, 0, 0, 0, 0));
        for (int fact = 0; fact < x.next(); fact++) {
            int f = fact;
            if (x.isThere(f) && !x.isStated(f)) {
                refuse(x, IllegalStateException.class, y -> y.takeBack(f));
            }
        }
    }

    private static void refuse(RuleForge x, Class<? extends RuntimeException> due, Call call) {
        Object thrown = "nothing";
        try {
            call.run(x);
        } catch (RuntimeException e) {
            thrown = e.getClass();
        }
        check.isSo("due is " + due + ", thrown was " + thrown, thrown == due);
        refused++;
    }
}
