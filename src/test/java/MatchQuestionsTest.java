/** Promises 33 to 41: matches and the agenda, asked. */
public final class MatchQuestionsTest {
    private static final int EACH = 0;
    private static final int NONE = 1;
    private static final int AT_LEAST = 2;

    private static final Check check = new Check();

    public static void main(String[] args) {
        promise33();
        promise34();
        promise34AgeNotPlace();
        promise35();
        promise36();
        wrongMatches();
        promises37To39();
        nextFacts();
        promise40();
        promise41();
        check.end();
    }

    private static void promise33() {
        RuleForge x = new RuleForge();
        x.addRule(0);
        x.addCondition(0, NONE, 0, 1);
        check.same("33: off", x.matches(0), 0);
        check.same("33: without any EACH one", x.switchOn(0), 1);
        check.same("33: one", x.matches(0), 1);
        x.state(0, 0, 0, 0);
        check.same("33: or none", x.matches(0), 0);
        for (int r : new int[] {-1, 1, Integer.MIN_VALUE}) {
            check.refusesIndex("33: matches(" + r + ")", x, () -> x.matches(r));
        }
        x.addRule(0);
        x.addCondition(1, EACH, 0, 1);
        x.addCondition(1, EACH, 0, 1);
        x.addCondition(1, EACH, 0, 1);
        for (int i = 1; i < 6; i++) {
            x.state(0, i, 0, 0);
        }
        check.same("33: 6 * 6 * 6", x.switchOn(1), 216);
        check.same("33: 6 * 6 * 6", x.matches(1), 216);
        check.same("34: the last one", x.factOf(1, 215, 0) + x.factOf(1, 215, 1) + x.factOf(1, 215, 2), 15);
        check.refusesIndex("34: one behind the last", x, () -> x.factOf(1, 216, 0));
    }

    private static void promise34() {
        RuleForge x = new RuleForge();
        x.addRule(0);
        x.addCondition(0, EACH, 1, 1);
        x.addCondition(0, NONE, 5, 1);
        x.addCondition(0, EACH, 0, 1);
        x.state(0, 0, 0, 0);
        x.state(1, 0, 0, 0);
        x.state(0, 1, 0, 0);
        x.state(1, 1, 0, 0);
        check.same("8: four", x.switchOn(0), 4);
        int[][] due = {{1, 0}, {1, 2}, {3, 0}, {3, 2}};
        for (int m = 0; m < 4; m++) {
            check.same("34: first EACH", x.factOf(0, m, 0), due[m][0]);
            check.same("34: second EACH, behind a NONE", x.factOf(0, m, 1), due[m][1]);
        }
        check.refusesIndex("34: no place 2", x, () -> x.factOf(0, 0, 2));
        check.refusesIndex("34: no place -1", x, () -> x.factOf(0, 0, -1));
        x.addRule(0);
        x.addCondition(1, NONE, 6, 1);
        x.switchOn(1);
        check.refusesIndex("34: no places at all", x, () -> x.factOf(1, 0, 0));
    }

    private static void promise34AgeNotPlace() {
        RuleForge x = new RuleForge();
        x.addRule(0);
        x.addCondition(0, EACH, 0, 1);
        x.switchOn(0);
        for (int i = 0; i < 4; i++) {
            x.state(0, i, 0, 0);
        }
        x.retract(1);
        x.retract(0);
        x.state(0, 9, 0, 0);
        x.state(0, 8, 0, 0);
        int[] due = {2, 3, 4, 5};
        check.same("33: four", x.matches(0), 4);
        for (int m = 0; m < 4; m++) {
            check.same("34: by rising numbers", x.factOf(0, m, 0), due[m]);
        }
    }

    private static void promise35() {
        RuleForge x = new RuleForge();
        x.addRule(0);
        x.addCondition(0, EACH, 0, 1);
        x.addCondition(0, NONE, 1, 1);
        x.switchOn(0);
        x.state(0, 0, 0, 0);
        x.state(0, 1, 0, 0);
        check.isNotSo("35: not yet", x.hasFired(0, 1));
        x.fire(1);
        check.isSo("35: the newer one", x.hasFired(0, 1));
        check.isNotSo("35: not the older one", x.hasFired(0, 0));
        x.state(2, 0, 0, 0);
        check.isSo("35: stays", x.hasFired(0, 1));
        int no = x.state(1, 0, 0, 0);
        check.same("33: none", x.matches(0), 0);
        x.retract(no);
        check.same("33: again", x.matches(0), 2);
        check.isNotSo("35: again, not FIRED", x.hasFired(0, 1));
        check.same("21: firings() stays", x.firings(0), 1);
    }

    private static void promise36() {
        RuleForge x = new RuleForge();
        x.addRule(0);
        x.addCondition(0, AT_LEAST, 2, 1);
        x.addCondition(0, EACH, 0, 1);
        x.addCondition(0, EACH, 1, 1);
        x.setTest(0, 1, 1, 4, 5);
        x.setTest(0, 2, 0, 6, 5);
        x.setTest(0, 2, 2, 4, 0);
        x.switchOn(0);
        x.state(2, 0, 0, 0);
        x.state(0, 1, -7, 3);
        x.state(1, 4, 5, 6);
        check.same("33: one", x.matches(0), 1);
        check.same("36: variable 5", x.variableOf(0, 0, 5), -7);
        check.same("36: variable 0", x.variableOf(0, 0, 0), 6);
        check.same("36: not bound", x.variableOf(0, 0, 1), 0);
        check.refusesIndex("36: variable 6", x, () -> x.variableOf(0, 0, 6));
        check.refusesIndex("36: variable -1", x, () -> x.variableOf(0, 0, -1));
        x.addRule(0);
        x.addCondition(1, EACH, 0, 1);
        x.setTest(1, 0, 0, 4, 2);
        x.setTest(1, 0, 1, 5, 2);
        x.addCondition(1, EACH, 0, 1);
        x.setTest(1, 1, 2, 4, 2);
        check.same("33: 1 and -7, and 3 is not 1", x.switchOn(1), 0);
        x.state(0, 9, 9, 1);
        check.same("33: now there is a 1 at slot 2", x.matches(1), 1);
        check.same("36: the first test 4 binds", x.variableOf(1, 0, 2), 1);
        check.same("34: the older", x.factOf(1, 0, 0), 1);
        check.same("34: the newer", x.factOf(1, 0, 1), 3);
    }

    private static void wrongMatches() {
        RuleForge x = new RuleForge();
        check.refusesIndex("34: no rules", x, () -> x.factOf(0, 0, 0));
        x.addRule(0);
        x.addCondition(0, EACH, 0, 1);
        x.addRule(0);
        x.addCondition(1, EACH, 0, 1);
        x.switchOn(0);
        x.state(0, 0, 0, 0);
        int[][] wrong = {{-1, 0}, {2, 0}, {0, 1}, {0, -1}, {1, 0}, {6, 0}, {0, 216}, {0, Integer.MIN_VALUE},
            {Integer.MAX_VALUE, 0}};
        for (int[] w : wrong) {
            String at = "(" + w[0] + ", " + w[1] + ", ..)";
            check.refusesIndex("34: factOf" + at, x, () -> x.factOf(w[0], w[1], 0));
            check.refusesIndex("35: hasFired" + at, x, () -> x.hasFired(w[0], w[1]));
            check.refusesIndex("36: variableOf" + at, x, () -> x.variableOf(w[0], w[1], 0));
        }
        check.same("34: the right one", x.factOf(0, 0, 0), 0);
        x.switchOff(0);
        check.refusesIndex("34: off", x, () -> x.factOf(0, 0, 0));
    }

    private static void promises37To39() {
        RuleForge x = new RuleForge();
        check.same("37: empty", x.agenda(), 0);
        check.same("38: empty", x.nextRule(), -1);
        check.same("39: empty", x.nextFact(0), -1);
        x.addRule(1);
        x.addCondition(0, EACH, 0, 1);
        x.addRule(2);
        x.addCondition(1, EACH, 1, 1);
        x.addCondition(1, EACH, 0, 1);
        x.switchOn(0);
        x.switchOn(1);
        x.state(0, 0, 0, 0);
        check.same("37: one", x.agenda(), 1);
        check.same("38: rule 0", x.nextRule(), 0);
        x.state(1, 0, 0, 0);
        x.state(0, 1, 0, 0);
        check.same("37: two and two", x.agenda(), 4);
        check.same("38: the greater urgency", x.nextRule(), 1);
        check.same("39: place 0", x.nextFact(0), 1);
        check.same("39: place 1", x.nextFact(1), 2);
        check.same("39: place 2", x.nextFact(2), -1);
        check.same("39: place -1", x.nextFact(-1), -1);
        check.same("39: greatest place", x.nextFact(Integer.MAX_VALUE), -1);
        check.same("39: least place", x.nextFact(Integer.MIN_VALUE), -1);
        x.fire(1);
        check.same("37: three", x.agenda(), 3);
        check.same("39: place 1", x.nextFact(1), 0);
        x.fire(1);
        check.same("38: rule 0 again", x.nextRule(), 0);
        check.same("39: the newer one", x.nextFact(0), 2);
        x.switchOff(0);
        check.same("37: none", x.agenda(), 0);
        check.same("38: none", x.nextRule(), -1);
    }

    private static void nextFacts() {
        RuleForge x = new RuleForge();
        x.addRule(0);
        x.addCondition(0, NONE, 0, 1);
        x.switchOn(0);
        check.same("37: one without facts", x.agenda(), 1);
        check.same("38: rule 0", x.nextRule(), 0);
        check.same("39: it has none", x.nextFact(0), -1);
    }

    private static void promise40() {
        RuleForge x = new RuleForge();
        for (int r = 0; r < 2; r++) {
            x.addRule(0);
            x.addCondition(r, EACH, r, 1);
            x.switchOn(r);
            x.state(r, 0, 0, 0);
            x.state(r, 1, 0, 0);
        }
        x.fire(3);
        check.same("40: in all rules together", x.fired(), 3);
        check.same("21: in each", x.firings(0) * 10 + x.firings(1), 12);
        x.switchOff(1);
        check.same("40: stays", x.fired(), 3);
    }

    private static void promise41() {
        RuleForge x = new RuleForge();
        check.same("41: no facts", x.meanSupports(), 0.0);
        x.addRule(0);
        x.addCondition(0, EACH, 0, 1);
        x.addTold(0, true, 1);
        x.switchOn(0);
        x.state(0, 0, 0, 0);
        check.same("41: none", x.meanSupports(), 0.0);
        x.state(0, 1, 0, 0);
        x.fire(20);
        check.same("41: two of three", x.meanSupports(), 2.0 / 3.0);
        x.state(2, 0, 0, 0);
        check.same("41: two of four", x.meanSupports(), 0.5);
    }
}
