/** Engines that hold as much as may be, for the tests of edges. */
final class Full {
    private static final int EACH = 0;

    private Full() {
    }

    /**
     * 48 facts: six of kind 0 are STATED (0 to 5), each SUPPORTs by rule 0 one of kinds 1, 2 and 3, that of kind 1
     * by rule 1 one of kinds 4, 5 and 6, that of kind 2 by rule 2 one of kind 7. Rule 3 is on without actions,
     * rules 4 and 5 are off without conditions. All have the value in slot 0.
     */
    static RuleForge engine() {
        RuleForge x = new RuleForge();
        int[][] told = {{1, 2, 3}, {4, 5, 6}, {7}, {}};
        for (int r = 0; r < 4; r++) {
            x.addRule(r);
            x.addCondition(r, EACH, r, 1);
            x.setTest(r, 0, 0, 4, r);
            for (int a = 0; a < told[r].length; a++) {
                x.addTold(r, true, told[r][a]);
                x.setValue(r, a, 0, r, 0);
            }
            x.switchOn(r);
        }
        x.addRule(-9);
        x.addRule(9);
        for (int i = 0; i < 6; i++) {
            x.state(0, i, 0, 0);
        }
        x.fire(20);
        x.fire(20);
        return x;
    }

    /** 48 facts that rest all on one that is STATED, number 0: see the tests for how far each is from it. */
    static RuleForge oneHoldsAll() {
        RuleForge x = new RuleForge();
        int[][] told = {{0, 1, 2}, {3, 4, 5}, {6, 7}};
        for (int r = 0; r < 3; r++) {
            x.addRule(0);
            x.addCondition(r, EACH, r, 1);
            x.setTest(r, 0, 0, 4, 0);
            for (int a = 0; a < told[r].length; a++) {
                x.addTold(r, true, told[r][a]);
                // kind 0 makes a row: each SUPPORTs the next one, till there are 6
                x.setValue(r, a, 0, 0, told[r][a] == 0 ? 1 : 0);
            }
            x.switchOn(r);
        }
        x.state(0, 0, 0, 0);
        x.fire(20);
        return x;
    }

    /** A row of 36 facts, each SUPPORTED by the one ahead of it alone; the first, number 0, is STATED. */
    static RuleForge row() {
        RuleForge x = new RuleForge();
        for (int r = 0; r < 6; r++) {
            x.addRule(0);
            x.addCondition(r, EACH, r, 1);
            x.setTest(r, 0, 2, 4, 0);
            x.addTold(r, true, (r + 1) % 6);
            x.setValue(r, 0, 2, 0, r == 5 ? 1 : 0);
            x.switchOn(r);
        }
        x.state(0, 0, 0, 0);
        x.fire(20);
        x.fire(20);
        return x;
    }

    /** Six rules with 216 matches each, of the facts 0 to 5 of kind 0; each match SUPPORTs one fact of kind 1. */
    static RuleForge matches() {
        RuleForge x = new RuleForge();
        for (int r = 0; r < 6; r++) {
            x.addRule(0);
            for (int c = 0; c < 3; c++) {
                x.addCondition(r, EACH, 0, 1);
            }
            x.addTold(r, true, 1);
            x.switchOn(r);
        }
        for (int i = 0; i < 6; i++) {
            x.state(0, i, 0, 0);
        }
        return x;
    }
}
