/** What the section "Terms" says of tests, sorts, the agenda's order, firing, and what holds (mostly promise 13). */
public final class TermsTest {
    private static final int EACH = 0;
    private static final int NONE = 1;
    private static final int AT_LEAST = 2;

    private static final Check check = new Check();

    public static void main(String[] args) {
        tests();
        testsOfVariables();
        none();
        atLeast();
        numberOnlyForAtLeast();
        sameFactTwice();
        orderByUrgency();
        orderByNewest();
        orderByLongerRow();
        orderByRuleAndFacts();
        orderByEachAsOften();
        actionsBehindTheEnd();
        supportNeedsTheMatch();
        supportOfMatchThatCameAgain();
        retractOnlyThatFact();
        sixOfAKind();
        supportOfWhatIsThere();
        supportEndsWithTheMatch();
        settlesBetweenActions();
        newFactDoesNotInheritSupport();
        twoKindsGoAtOnce();
        check.end();
    }

    /** A rule with one EACH of kind 0 that has a test in slot 0; how many of 1, 2, 3 fulfil it. */
    private static int fulfilling(int test, int v) {
        RuleForge x = new RuleForge();
        x.addRule(0);
        x.addCondition(0, EACH, 0, 1);
        x.setTest(0, 0, 0, test, v);
        x.state(0, 1, 0, 0);
        x.state(0, 2, 0, 0);
        x.state(0, 3, 0, 0);
        return x.switchOn(0);
    }

    private static void tests() {
        check.same("test 0", fulfilling(0, 2), 3);
        check.same("test 1", fulfilling(1, 2), 1);
        check.same("test 2", fulfilling(2, 2), 1);
        check.same("test 2", fulfilling(2, 3), 2);
        check.same("test 3", fulfilling(3, 2), 1);
        check.same("test 3", fulfilling(3, 1), 2);
        check.same("test 4 that binds", fulfilling(4, 2), 3);
    }

    private static int pairs(int test) {
        RuleForge x = new RuleForge();
        x.addRule(0);
        x.addCondition(0, EACH, 0, 1);
        x.setTest(0, 0, 0, 4, 3);
        x.addCondition(0, EACH, 1, 1);
        x.setTest(0, 1, 2, test, 3);
        x.state(0, 2, 0, 0);
        x.state(1, 0, 0, 1);
        x.state(1, 0, 0, 2);
        x.state(1, 1, 0, 2);
        x.state(1, 0, 0, 3);
        x.state(1, 0, 0, 4);
        x.state(1, 0, 0, 5);
        return x.switchOn(0);
    }

    private static void testsOfVariables() {
        check.same("test 4", pairs(4), 2);
        check.same("test 5", pairs(5), 1);
        check.same("test 6", pairs(6), 3);
        check.same("test 7", pairs(7), 4);
    }

    private static void none() {
        RuleForge x = new RuleForge();
        x.addRule(0);
        x.addCondition(0, EACH, 0, 1);
        x.setTest(0, 0, 0, 4, 0);
        x.addCondition(0, NONE, 0, 1);
        x.setTest(0, 1, 0, 6, 0);
        x.switchOn(0);
        x.state(0, 5, 0, 0);
        x.state(0, 7, 0, 0);
        x.state(0, 7, 1, 0);
        x.state(0, 6, 0, 0);
        check.same("NONE: the greatest ones", x.matches(0), 2);
        check.same("NONE: the first of them", x.factOf(0, 0, 0), 1);
        check.same("NONE: the second of them", x.factOf(0, 1, 0), 2);
        x.retract(1);
        x.retract(2);
        check.same("NONE: the next greatest", x.factOf(0, 0, 0), 3);
    }

    private static void atLeast() {
        RuleForge x = new RuleForge();
        x.addRule(0);
        x.addCondition(0, AT_LEAST, 0, 3);
        x.setTest(0, 0, 1, 3, 0);
        x.switchOn(0);
        x.state(0, 0, 1, 0);
        x.state(0, 1, 1, 0);
        x.state(0, 2, 0, 0);
        check.same("AT LEAST: two of three", x.matches(0), 0);
        x.state(0, 3, 1, 0);
        check.same("AT LEAST: three", x.matches(0), 1);
        x.state(0, 4, 1, 0);
        check.same("AT LEAST: or more", x.matches(0), 1);
        x.fire(1);
        x.retract(0);
        check.isSo("AT LEAST: the match was there all the time", x.hasFired(0, 0));
        x.retract(1);
        check.same("AT LEAST: two again", x.matches(0), 0);
    }

    private static void numberOnlyForAtLeast() {
        RuleForge x = new RuleForge();
        x.addRule(0);
        x.addCondition(0, EACH, 0, 6);
        x.addCondition(0, NONE, 1, 6);
        x.state(0, 0, 0, 0);
        check.same("n is of no use for EACH and NONE", x.switchOn(0), 1);
        x.state(1, 0, 0, 0);
        check.same("n is of no use for NONE", x.matches(0), 0);
    }

    private static void sameFactTwice() {
        RuleForge x = new RuleForge();
        x.addRule(0);
        x.addCondition(0, EACH, 0, 1);
        x.addCondition(0, EACH, 0, 1);
        x.switchOn(0);
        x.state(0, 0, 0, 0);
        check.same("the same fact for two", x.matches(0), 1);
        check.same("place 0", x.factOf(0, 0, 0), 0);
        check.same("place 1", x.factOf(0, 0, 1), 0);
    }

    private static void orderByUrgency() {
        RuleForge x = new RuleForge();
        int[] urgencies = {-1, 3, 0, 9, -9, 3};
        for (int r = 0; r < 6; r++) {
            x.addRule(urgencies[r]);
            x.addCondition(r, EACH, 0, 1);
            x.switchOn(r);
        }
        x.state(0, 0, 0, 0);
        for (int due : new int[] {3, 1, 5, 2, 0, 4}) {
            check.same("the greater urgency, then the smaller rule", x.nextRule(), due);
            x.fire(1);
        }
    }

    private static void orderByNewest() {
        RuleForge x = new RuleForge();
        x.addRule(0);
        x.addCondition(0, EACH, 0, 1);
        x.addCondition(0, EACH, 1, 1);
        x.switchOn(0);
        x.state(0, 0, 0, 0);
        x.state(1, 0, 0, 0);
        x.state(0, 1, 0, 0);
        x.state(1, 1, 0, 0);
        int[][] due = {{2, 3}, {0, 3}, {2, 1}, {0, 1}};
        for (int[] row : due) {
            check.same("the greater row, place 0", x.nextFact(0), row[0]);
            check.same("the greater row, place 1", x.nextFact(1), row[1]);
            x.fire(1);
        }
    }

    private static void orderByLongerRow() {
        RuleForge x = new RuleForge();
        x.addRule(0);
        x.addCondition(0, NONE, 5, 1);
        for (int r = 1; r <= 3; r++) {
            x.addRule(0);
            for (int c = 0; c < r; c++) {
                x.addCondition(r, EACH, 0, 1);
            }
        }
        for (int r = 0; r <= 3; r++) {
            x.switchOn(r);
        }
        x.state(0, 0, 0, 0);
        for (int due : new int[] {3, 2, 1, 0}) {
            check.same("the longer row", x.nextRule(), due);
            x.fire(1);
        }
    }

    private static void orderByRuleAndFacts() {
        RuleForge x = new RuleForge();
        for (int r = 0; r < 2; r++) {
            x.addRule(0);
            x.addCondition(r, EACH, 0, 1);
            x.addCondition(r, EACH, 0, 1);
            x.setTest(r, 0, 0, 4, 0);
            x.setTest(r, 1, 0, 7, 0);
        }
        x.switchOn(1);
        x.switchOn(0);
        x.state(0, 0, 0, 0);
        x.state(0, 1, 0, 0);
        int[][] due = {{0, 0, 1}, {0, 1, 0}, {1, 0, 1}, {1, 1, 0}};
        for (int[] row : due) {
            check.same("the smaller rule", x.nextRule(), row[0]);
            check.same("the smaller fact at the first EACH", x.nextFact(0), row[1]);
            check.same("the other one", x.nextFact(1), row[2]);
            x.fire(1);
        }
        check.same("empty", x.agenda(), 0);
    }

    private static void orderByEachAsOften() {
        RuleForge x = new RuleForge();
        x.addRule(0);
        x.addCondition(0, EACH, 0, 1);
        x.addCondition(0, EACH, 0, 1);
        x.switchOn(0);
        x.state(0, 0, 0, 0);
        x.state(0, 1, 0, 0);
        int[][] due = {{1, 1}, {0, 1}, {1, 0}, {0, 0}};
        for (int[] row : due) {
            check.same("each as often as it is there, place 0", x.nextFact(0), row[0]);
            check.same("each as often as it is there, place 1", x.nextFact(1), row[1]);
            x.fire(1);
        }
    }

    private static void actionsBehindTheEnd() {
        RuleForge x = new RuleForge();
        x.addRule(0);
        x.addCondition(0, EACH, 0, 1);
        x.setTest(0, 0, 0, 4, 0);
        x.setTest(0, 0, 2, 4, 1);
        x.addRetract(0, 0);
        x.addTold(0, false, 1);
        x.setValue(0, 1, 0, 1, 0);
        x.setValue(0, 1, 1, 0, 1);
        x.switchOn(0);
        x.state(0, 4, 5, 6);
        x.fire(1);
        check.same("STATE is done with the values of the match that is gone", x.find(1, 6, 5, 0), 1);
        check.same("alone", x.facts(), 1);
        check.same("it FIRED", x.firings(0), 1);
    }

    private static void supportNeedsTheMatch() {
        RuleForge x = new RuleForge();
        x.addRule(0);
        x.addCondition(0, EACH, 0, 1);
        x.addTold(0, true, 1);
        x.addRetract(0, 0);
        x.addTold(0, true, 2);
        x.switchOn(0);
        x.state(0, 0, 0, 0);
        check.same("fires", x.fire(20), 1);
        check.same("nothing is SUPPORTED by a match that is gone", x.facts(), 0);
        check.same("one was there for a moment, the other was not new", x.next(), 2);
    }

    private static void supportOfMatchThatCameAgain() {
        RuleForge x = new RuleForge();
        x.addRule(0);
        x.addCondition(0, NONE, 1, 1);
        x.addTold(0, true, 1);
        x.addTold(0, true, 2);
        x.addTold(0, false, 3);
        x.switchOn(0);
        check.same("fires", x.fire(1), 1);
        check.same("the match came again", x.matches(0), 1);
        check.isNotSo("as another one", x.hasFired(0, 0));
        check.same("so the second SUPPORT did nothing", x.find(2, 0, 0, 0), -1);
        check.same("and STATE did", x.find(3, 0, 0, 0), 1);
        check.same("alone", x.facts(), 1);
        x.state(2, 0, 0, 0);
        x.fire(1);
        check.same("nor does it SUPPORT one that is there", x.supports(x.find(2, 0, 0, 0)), 0);
    }

    private static void retractOnlyThatFact() {
        RuleForge x = new RuleForge();
        x.addRule(0);
        x.addCondition(0, EACH, 0, 1);
        x.addRetract(0, 0);
        x.addTold(0, false, 0);
        x.setValue(0, 1, 0, -1, 77);
        x.switchOn(0);
        x.state(0, 0, 0, 0);
        x.fire(1);
        check.same("gone, and another came", x.find(0, 77, 0, 0), 1);
        x.switchOff(0);
        x.addRetract(0, 0);
        x.switchOn(0);
        x.fire(1);
        check.same("the one that came is not that of the match", x.find(0, 77, 0, 0), 2);
        check.same("one", x.facts(), 1);
        x.addRule(0);
        x.addCondition(1, NONE, 7, 1);
        x.addCondition(1, EACH, 3, 1);
        x.addCondition(1, EACH, 4, 1);
        x.addRetract(1, 2);
        x.addRetract(1, 2);
        x.switchOff(0);
        x.switchOn(1);
        x.state(3, 0, 0, 0);
        x.state(4, 0, 0, 0);
        x.fire(1);
        check.same("the number of the CONDITION, not the place", x.find(4, 0, 0, 0), -1);
        check.same("the other one stays", x.find(3, 0, 0, 0), 3);
    }

    private static void sixOfAKind() {
        RuleForge x = new RuleForge();
        x.addRule(0);
        x.addCondition(0, EACH, 0, 1);
        x.addTold(0, false, 1);
        x.addTold(0, true, 1);
        x.addTold(0, false, 2);
        x.setValue(0, 0, 0, -1, 50);
        x.setValue(0, 1, 0, -1, 60);
        x.switchOn(0);
        for (int i = 0; i < 6; i++) {
            x.state(1, i, 0, 0);
        }
        x.state(0, 0, 0, 0);
        x.fire(1);
        check.same("STATE does nothing", x.find(1, 50, 0, 0), -1);
        check.same("SUPPORT does nothing", x.find(1, 60, 0, 0), -1);
        check.same("the next action is done, with the next number", x.find(2, 0, 0, 0), 7);
    }

    private static void supportOfWhatIsThere() {
        RuleForge x = new RuleForge();
        x.addRule(0);
        x.addCondition(0, EACH, 0, 1);
        x.addTold(0, true, 1);
        x.addRule(0);
        x.addCondition(1, EACH, 2, 1);
        x.addTold(1, false, 3);
        x.addRule(0);
        x.addCondition(2, EACH, 2, 1);
        x.addTold(2, true, 3);
        for (int r = 0; r < 3; r++) {
            x.switchOn(r);
        }
        x.state(1, 0, 0, 0);
        x.state(0, 0, 0, 0);
        x.fire(20);
        check.same("the one that is there is meant", x.facts(), 2);
        check.same("and SUPPORTED", x.supports(0), 1);
        check.isSo("and STATED", x.isStated(0));
        check.same("and stays", x.takeBack(0), 0);
        x.state(2, 0, 0, 0);
        x.fire(20);
        check.isSo("STATED and SUPPORTED", x.isStated(3));
        check.same("SUPPORTED once", x.supports(3), 1);
        check.same("because of rule 2", x.because(3), 2);
    }

    private static void supportEndsWithTheMatch() {
        RuleForge x = new RuleForge();
        x.addRule(0);
        x.addCondition(0, EACH, 0, 1);
        x.addCondition(0, NONE, 1, 1);
        x.addTold(0, true, 2);
        x.switchOn(0);
        x.state(0, 0, 0, 0);
        x.fire(20);
        check.same("there", x.facts(), 2);
        int no = x.state(1, 0, 0, 0);
        check.same("a new fact ends the match, and what it SUPPORTS", x.find(2, 0, 0, 0), -1);
        check.same("gone is the new fact alone", x.retract(no), 1);
        check.same("the match is there again and waits", x.agenda(), 1);
        check.same("and SUPPORTS nothing yet", x.find(2, 0, 0, 0), -1);
        x.fire(20);
        check.same("a new number", x.find(2, 0, 0, 0), 3);
    }

    private static void settlesBetweenActions() {
        RuleForge x = new RuleForge();
        x.addRule(0);
        x.addCondition(0, EACH, 0, 1);
        x.addTold(0, true, 1);
        x.switchOn(0);
        x.addRule(5);
        x.addCondition(1, EACH, 0, 1);
        x.addCondition(1, EACH, 1, 1);
        x.addRetract(1, 0);
        x.addTold(1, false, 1);
        x.addTold(1, false, 1);
        x.setValue(1, 2, 0, -1, 1);
        x.switchOn(1);
        x.state(0, 0, 0, 0);
        check.same("two fire", x.fire(20), 2);
        check.same("the SUPPORTED one was gone ahead of the STATE", x.find(1, 0, 0, 0), 2);
        check.same("and then the other one came", x.find(1, 1, 0, 0), 3);
        check.same("two", x.facts(), 2);
    }

    private static void newFactDoesNotInheritSupport() {
        RuleForge x = new RuleForge();
        x.addRule(0);
        x.addCondition(0, EACH, 0, 1);
        x.addTold(0, true, 1);
        x.switchOn(0);
        x.state(0, 0, 0, 0);
        x.fire(20);
        check.same("the one that is SUPPORTED alone", x.retract(1), 1);
        check.same("the same comes with a new number", x.state(1, 0, 0, 0), 2);
        check.same("the match SUPPORTED another one", x.supports(2), 0);
        check.same("so nothing holds it", x.takeBack(2), 1);
        check.isSo("the match still has FIRED", x.hasFired(0, 0));
        check.same("and uses count", x.uses(0), 1);
    }

    /** What rests on either of two facts that go together goes too, down to the last. */
    private static void twoKindsGoAtOnce() {
        RuleForge x = new RuleForge();
        int[][] told = {{0, 1}, {0, 2}, {1, 3}, {2, 4}, {3, 5}, {4, 6}};
        for (int r = 0; r < 6; r++) {
            x.addRule(0);
            x.addCondition(r, EACH, told[r][0], 1);
            x.addTold(r, true, told[r][1]);
            x.switchOn(r);
        }
        x.state(0, 0, 0, 0);
        check.same("six fire", x.fire(20), 6);
        check.same("all seven would go", x.wouldGo(0), 7);
        check.same("and go", x.takeBack(0), 7);
        check.same("none stays", x.facts(), 0);
        check.same("and no match", x.matches(3) + x.matches(4) + x.matches(5), 0);
    }
}
