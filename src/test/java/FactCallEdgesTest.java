/**
 * Promises 10 to 13 at their edges, with what the section "Terms" says of facts and firing: the last value in
 * bounds and the first that is not, nothing there yet and as many as may be, and each refused call.
 */
public final class FactCallEdgesTest {
    private static final int EACH = 0;
    private static final int NONE = 1;
    private static final int AT_LEAST = 2;
    private static final int LEAST = Integer.MIN_VALUE;
    private static final int MOST = Integer.MAX_VALUE;

    private static final Check check = new Check();

    public static void main(String[] args) {
        promise10Kinds();
        promise10Values();
        promise10SixOfAKind();
        promise10WhichFirst();
        promise10NoTwoAlike();
        promise10NewNumbers();
        promise10NewFactEndsOthers();
        promise11NoSuchFact();
        promise11NotStated();
        promise11HowManyAreGone();
        promise11RingStays();
        promise12NoSuchFact();
        promise12HowManyAreGone();
        promise12Ring();
        promise13Most();
        promise13HowMany();
        promise13SixOfAKind();
        promise13RetractMakesRoom();
        promise13ThatIsMeant();
        promise13SupportNeedsTheMatchAllTheTime();
        promise13AnotherFactInItsPlace();
        promise13RetractIfStillThere();
        promise13ValuesStay();
        promise13SupportedByItself();
        promise13NeitherStatedNorSupported();
        promise13OnlyThenTheNextAction();
        promise13NoSupportOfTheMatchThatCameAgain();
        promise13FiveHundredAndTwelveCalls();
        check.end();
    }

    /** A rule that is on, with an EACH of a kind (its slot 0 is variable 0) and one ACTION that tells that value. */
    private static int follow(RuleForge x, int from, boolean isSupport, int to) {
        int rule = x.addRule(0);
        x.addCondition(rule, EACH, from, 1);
        x.setTest(rule, 0, 0, 4, 0);
        x.addTold(rule, isSupport, to);
        x.setValue(rule, 0, 0, 0, 0);
        x.switchOn(rule);
        return rule;
    }

    /** "Throws `IllegalArgumentException` if kind is not 0 to 7 .." */
    private static void promise10Kinds() {
        RuleForge x = new RuleForge();
        for (int kind : new int[] {-1, 8, 9, -8, LEAST, MOST}) {
            check.refusesArgument("10: kind " + kind, x, () -> x.state(kind, 0, 0, 0));
        }
        check.same("10: no fact, no number used", x.facts() + x.next(), 0);
        for (int kind = 0; kind < 8; kind++) {
            check.same("10: kind " + kind, x.state(kind, 1, 2, 3), kind);
            check.same("10: kindOf", x.kindOf(kind), kind);
        }
        check.same("10: eight facts", x.facts(), 8);
    }

    /** ".. or a value is not -999 to 999" */
    private static void promise10Values() {
        RuleForge x = new RuleForge();
        x.state(7, 5, 5, 5);
        for (int wrong : new int[] {-1000, 1000, -1001, 1001, LEAST, MOST}) {
            check.refusesArgument("10: a " + wrong, x, () -> x.state(0, wrong, 999, -999));
            check.refusesArgument("10: b " + wrong, x, () -> x.state(0, 0, wrong, 0));
            check.refusesArgument("10: c " + wrong, x, () -> x.state(0, -999, 0, wrong));
        }
        check.same("10: one fact, one number used", x.facts() * 10 + x.next(), 11);
        for (int i = 0; i < 6; i++) {
            int value = i % 2 == 0 ? -999 : 999;
            int slot = i / 2;
            int number = x.state(slot, slot == 0 ? value : 0, slot == 1 ? value : 0, slot == 2 ? value : 0);
            check.same("10: " + value + " in slot " + slot, x.valueOf(number, slot), value);
            check.same("10: 0 beside it", x.valueOf(number, (slot + 1) % 3), 0);
        }
    }

    /** "Throws `IllegalStateException` if there is none like that, but 6 of this kind", in each kind. */
    private static void promise10SixOfAKind() {
        RuleForge x = new RuleForge();
        for (int i = 0; i < 48; i++) {
            check.same("10: room for six of each", x.state(i % 8, 0, i / 8, 0), i);
        }
        check.same("10: 48 facts", x.facts(), 48);
        for (int i = 0; i < 48; i++) {
            int kind = i % 8;
            int b = i / 8;
            check.refusesState("10: a seventh of " + kind, x, () -> x.state(kind, 1, b, 0));
            check.same("10: one that is there", x.state(kind, 0, b, 0), i);
        }
        check.same("10: next() is as it was", x.next(), 48);
        x.retract(47);
        check.refusesState("10: still six of kind 6", x, () -> x.state(6, 9, 9, 9));
        check.same("10: one of kind 7 is gone", x.state(7, 9, 9, 9), 48);
        check.refusesState("10: six again", x, () -> x.state(7, 9, 9, 8));
    }

    /** "If several exceptions apply, the one that is named first is thrown." */
    private static void promise10WhichFirst() {
        RuleForge x = new RuleForge();
        for (int i = 0; i < 6; i++) {
            x.state(0, i, 0, 0);
        }
        check.refusesState("10: six of the kind alone", x, () -> x.state(0, 6, 0, 0));
        for (int wrong : new int[] {-1000, 1000}) {
            check.refusesArgument("10: a ahead of six", x, () -> x.state(0, wrong, 0, 0));
            check.refusesArgument("10: b ahead of six", x, () -> x.state(0, 0, wrong, 0));
            check.refusesArgument("10: c ahead of six", x, () -> x.state(0, 0, 0, wrong));
            check.refusesArgument("10: all of them", x, () -> x.state(-1, wrong, wrong, wrong));
        }
    }

    /** "Of the facts that there are, no two have the same kind and the same values" */
    private static void promise10NoTwoAlike() {
        RuleForge x = new RuleForge();
        check.same("10: first", x.state(0, 1, 2, 3), 0);
        check.same("10: again", x.state(0, 1, 2, 3), 0);
        check.same("10: another kind", x.state(1, 1, 2, 3), 1);
        check.same("10: another a", x.state(0, 0, 2, 3), 2);
        check.same("10: another b", x.state(0, 1, 1, 3), 3);
        check.same("10: another c", x.state(0, 1, 2, 4), 4);
        check.same("10: the same values in another order", x.state(0, 3, 2, 1), 5);
        check.same("10: six facts", x.facts(), 6);
        check.same("10: the first once more", x.state(0, 1, 2, 3), 0);
        check.same("10: taken back once, it is gone", x.takeBack(0), 1);
    }

    /** "Facts are numbered from 0 ..; a fact that is gone never comes back: the same .. come with a new number." */
    private static void promise10NewNumbers() {
        RuleForge x = new RuleForge();
        for (int i = 0; i < 80; i++) {
            check.same("10: each with the next number", x.state(5, -999, 999, 0), i);
            check.same("10: next()", x.next(), i + 1);
            check.same("10: gone", i % 2 == 0 ? x.retract(i) : x.takeBack(i), 1);
            check.isNotSo("10: it is not there", x.isThere(i));
            check.same("10: nor found", x.find(5, -999, 999, 0), -1);
            check.same("10: next() stays", x.next(), i + 1);
        }
        check.same("10: none is there", x.facts(), 0);
    }

    /** A new fact is there behind state(), though all matches may end by it, and what they SUPPORT may go. */
    private static void promise10NewFactEndsOthers() {
        RuleForge x = new RuleForge();
        x.addRule(0);
        x.addCondition(0, NONE, 0, 1);
        for (int kind = 1; kind <= 3; kind++) {
            x.addTold(0, true, kind);
        }
        x.switchOn(0);
        x.fire(1);
        check.same("10: three SUPPORTED", x.facts(), 3);
        check.same("10: its number, not how many are gone", x.state(0, 0, 0, 0), 3);
        check.same("10: it is there alone", x.facts(), 1);
        check.isSo("10: and STATED", x.isStated(3));
        check.same("10: next()", x.next(), 4);
    }

    /** "Throws `IndexOutOfBoundsException` if there is no fact with this number now" */
    private static void promise11NoSuchFact() {
        RuleForge x = new RuleForge();
        check.refusesIndex("11: none there yet", x, () -> x.takeBack(0));
        x.state(3, 0, 0, 0);
        x.state(3, 1, 0, 0);
        x.state(3, 2, 0, 0);
        x.takeBack(1);
        for (int fact : new int[] {-1, 1, 3, 4, 48, LEAST, MOST}) {
            check.refusesIndex("11: fact " + fact, x, () -> x.takeBack(fact));
        }
        x.state(3, 1, 0, 0);
        check.refusesIndex("11: the number that is gone, in whose place another came", x, () -> x.takeBack(1));
        check.same("11: the first", x.takeBack(0), 1);
        check.same("11: the last", x.takeBack(3), 1);
        check.same("11: one is left", x.facts(), 1);
    }

    /** "Throws `IllegalStateException` if it is not STATED"; "if it is SUPPORTED, it stays" */
    private static void promise11NotStated() {
        RuleForge x = Full.engine();
        for (int fact = 6; fact < 48; fact++) {
            int f = fact;
            check.refusesState("11: SUPPORTED alone, " + f, x, () -> x.takeBack(f));
        }
        check.refusesIndex("11: behind the last", x, () -> x.takeBack(48));
        for (int fact = 6; fact < 48; fact++) {
            int f = fact;
            x.state(x.kindOf(f), x.valueOf(f, 0), 0, 0);
            check.isSo("11: STATED too", x.isStated(f));
            check.same("11: it stays", x.takeBack(f), 0);
            check.isNotSo("11: STATED no more", x.isStated(f));
            check.refusesState("11: a second time", x, () -> x.takeBack(f));
        }
        check.same("11: all are there", x.facts(), 48);
    }

    /** "Returns how many facts are gone by that.": none, one, all that rest on it, up to 48 at once. */
    private static void promise11HowManyAreGone() {
        RuleForge x = Full.engine();
        for (int i = 0; i < 6; i++) {
            check.same("11: it, and the seven that rest on it", x.takeBack(i), 8);
            check.same("11: the others stay", x.facts(), 40 - 8 * i);
        }
        RuleForge y = Full.oneHoldsAll();
        check.same("11: 48 facts", y.facts(), 48);
        check.same("11: all at once", y.takeBack(0), 48);
        check.same("11: none is left", y.facts() + y.agenda() + y.matches(0), 0);
        RuleForge z = Full.row();
        check.same("11: 36 in a row", z.facts(), 36);
        check.same("11: one after the other", z.takeBack(0), 36);
        check.same("11: none is left", z.facts(), 0);
    }

    /** "(Facts that SUPPORT one another in a ring stay.)": a ring of six. */
    private static void promise11RingStays() {
        RuleForge x = new RuleForge();
        for (int r = 0; r < 6; r++) {
            follow(x, r, true, (r + 1) % 6);
        }
        x.state(0, 7, 0, 0);
        check.same("11: six fire", x.fire(20), 6);
        check.same("11: the first is SUPPORTED by the last", x.supports(0), 1);
        check.same("11: it stays", x.takeBack(0), 0);
        check.same("11: six facts", x.facts(), 6);
        check.refusesState("11: none of them is STATED", x, () -> x.takeBack(0));
        check.same("11: the ring is broken", x.switchOff(3), 6);
        check.same("11: none is left", x.facts(), 0);
    }

    /** "Throws `IndexOutOfBoundsException` if there is no fact with this number now" */
    private static void promise12NoSuchFact() {
        RuleForge x = new RuleForge();
        check.refusesIndex("12: none there yet", x, () -> x.retract(0));
        follow(x, 2, true, 4);
        x.state(2, 0, 0, 0);
        x.fire(1);
        for (int fact : new int[] {-1, 2, 3, 48, LEAST, MOST}) {
            check.refusesIndex("12: fact " + fact, x, () -> x.retract(fact));
        }
        check.same("12: both are there", x.facts(), 2);
        check.same("12: the last", x.retract(1), 1);
        check.refusesIndex("12: a second time", x, () -> x.retract(1));
        check.same("12: the first", x.retract(0), 1);
        check.refusesIndex("12: none is left", x, () -> x.retract(0));
        check.refusesIndex("12: none is left", x, () -> x.retract(1));
    }

    /** "Makes a fact be gone, STATED and SUPPORTED or not."; "how many facts are gone by that, it itself counted" */
    private static void promise12HowManyAreGone() {
        RuleForge x = Full.engine();
        int seventh = x.find(7, 3, 0, 0);
        check.same("12: nothing rests on it", x.retract(seventh), 1);
        check.same("12: it, and three of kinds 4 to 6", x.retract(x.find(1, 3, 0, 0)), 4);
        check.same("12: it, and those of kinds 2 and 3", x.retract(3), 3);
        x.state(2, 4, 0, 0);
        check.same("12: STATED and SUPPORTED", x.retract(x.find(2, 4, 0, 0)), 2);
        check.same("12: all else that rests on 4", x.retract(4), 6);
        RuleForge y = Full.oneHoldsAll();
        check.same("12: all 48 at once", y.retract(0), 48);
        RuleForge z = Full.row();
        check.same("12: the last one of the row", z.retract(35), 1);
        check.same("12: those behind the half", z.retract(17), 18);
        check.same("12: the rest", z.retract(0), 17);
    }

    /** A fact of a ring that is retracted takes the ring with it. */
    private static void promise12Ring() {
        for (int fact = 0; fact < 6; fact++) {
            RuleForge x = new RuleForge();
            for (int r = 0; r < 6; r++) {
                follow(x, r, true, (r + 1) % 6);
            }
            x.state(0, 7, 0, 0);
            x.fire(20);
            x.state(3, 7, 0, 0);
            x.takeBack(0);
            check.same("12: up to the one that is STATED", x.retract(fact), fact == 3 ? 6 : fact < 3 ? 3 - fact : 9 - fact);
        }
    }

    /** "Throws `IllegalArgumentException` if most is not 1 to 20" */
    private static void promise13Most() {
        RuleForge x = Full.matches();
        for (int most : new int[] {0, -1, 21, 22, -20, LEAST, MOST}) {
            check.refusesArgument("13: most " + most, x, () -> x.fire(most));
        }
        check.same("13: none FIRED", x.fired(), 0);
        int sum = 0;
        for (int most = 1; most <= 20; most++) {
            check.same("13: most " + most, x.fire(most), most);
            sum += most;
            check.same("13: fired()", x.fired(), sum);
            check.same("13: the rest waits", x.agenda(), 1296 - sum);
        }
    }

    /** "Fires, till so many matches did, or the AGENDA is empty." */
    private static void promise13HowMany() {
        for (int most = 1; most <= 20; most++) {
            for (int facts = 0; facts <= 6; facts++) {
                RuleForge x = new RuleForge();
                x.addRule(0);
                x.addCondition(0, EACH, 0, 1);
                x.addCondition(0, EACH, 0, 1);
                x.switchOn(0);
                for (int i = 0; i < facts; i++) {
                    x.state(0, i, 0, 0);
                }
                int waiting = facts * facts;
                check.same("13: " + most + " of " + waiting, x.fire(most), Math.min(most, waiting));
                check.same("13: what waits", x.agenda(), Math.max(0, waiting - most));
                check.same("13: firings()", x.firings(0), Math.min(most, waiting));
            }
        }
    }

    /** "otherwise, if there are 6 of that kind, nothing is done by it; otherwise there is a new fact" */
    private static void promise13SixOfAKind() {
        for (int there = 0; there <= 6; there++) {
            for (int i = 0; i < 2; i++) {
                RuleForge x = new RuleForge();
                x.addRule(0);
                x.addCondition(0, EACH, 0, 1);
                x.addTold(0, i == 1, 7);
                x.setValue(0, 0, 0, -1, 50);
                x.addTold(0, i == 1, 6);
                x.switchOn(0);
                for (int f = 0; f < there; f++) {
                    x.state(7, f, 0, 0);
                }
                x.state(0, 0, 0, 0);
                check.same("13: it fires", x.fire(20), 1);
                boolean isNew = there < 6;
                check.same("13: beside " + there, x.find(7, 50, 0, 0), isNew ? there + 1 : -1);
                check.same("13: the next number", x.find(6, 0, 0, 0), isNew ? there + 2 : there + 1);
                check.same("13: facts()", x.facts(), there + (isNew ? 3 : 2));
                check.isSo("13: it FIRED", x.hasFired(0, 0));
            }
        }
    }

    /** A RETRACT ahead of it makes room in a kind that is full, a RETRACT behind it does not. */
    private static void promise13RetractMakesRoom() {
        for (int i = 0; i < 2; i++) {
            RuleForge x = new RuleForge();
            x.addRule(0);
            x.addCondition(0, EACH, 4, 1);
            x.setTest(0, 0, 0, 1, 5);
            if (i == 0) {
                x.addRetract(0, 0);
            }
            x.addTold(0, false, 4);
            x.setValue(0, i == 0 ? 1 : 0, 0, -1, 50);
            if (i == 1) {
                x.addRetract(0, 0);
            }
            x.switchOn(0);
            for (int f = 0; f < 6; f++) {
                x.state(4, f, 0, 0);
            }
            x.fire(1);
            check.same("13: room or none", x.find(4, 50, 0, 0), i == 0 ? 6 : -1);
            check.same("13: facts()", x.facts(), i == 0 ? 6 : 5);
            check.same("13: next()", x.next(), i == 0 ? 7 : 6);
        }
    }

    /** "if there is a fact of that kind with those values, that is meant": in a kind that is full, too. */
    private static void promise13ThatIsMeant() {
        RuleForge x = new RuleForge();
        follow(x, 0, true, 1);
        int states = follow(x, 1, false, 2);
        follow(x, 3, false, 2);
        follow(x, 3, true, 1);
        for (int i = 0; i < 6; i++) {
            x.state(0, i, 0, 0);
        }
        x.fire(20);
        check.same("13: six of kinds 0 to 2", x.facts(), 18);
        x.switchOff(states);
        check.same("13: STATED facts stay", x.facts(), 18);
        x.state(3, 4, 0, 0);
        x.state(3, 6, 0, 0);
        check.same("13: four fire", x.fire(20), 4);
        check.same("13: none is new", x.next(), 20);
        check.same("13: SUPPORTED once more", x.supports(x.find(1, 4, 0, 0)), 2);
        check.same("13: not this one", x.supports(x.find(1, 3, 0, 0)), 1);
        check.isNotSo("13: by SUPPORT it is not STATED", x.isStated(x.find(1, 4, 0, 0)));
        check.same("13: it stays for one of the two", x.retract(4), 1);
        check.same("13: and goes with the other", x.retract(x.find(3, 4, 0, 0)), 2);
    }

    /** "if that was there all the time from when it FIRED till this ACTION begins; if it was not, also if it came .." */
    private static void promise13SupportNeedsTheMatchAllTheTime() {
        for (int i = 0; i < 4; i++) {
            RuleForge x = new RuleForge();
            x.addRule(0);
            x.addCondition(0, EACH, 0, 1);
            x.addCondition(0, NONE, 1, 1);
            // 0: goes on; 1: its fact is gone; 2: its NONE ends it for good; 3: ends it, and it comes again
            if (i == 1) {
                x.addRetract(0, 0);
            } else {
                x.addTold(0, i == 3, i == 0 ? 5 : 1);
            }
            x.addTold(0, true, 2);
            x.addTold(0, false, 3);
            x.switchOn(0);
            x.state(0, 0, 0, 0);
            check.same("13: one fires", x.fire(1), 1);
            check.same("13: SUPPORT, case " + i, x.find(2, 0, 0, 0), i == 0 ? 2 : -1);
            check.same("13: STATE, case " + i, x.find(3, 0, 0, 0), i == 0 ? 3 : i == 1 ? 1 : 2);
            check.same("13: matches(), case " + i, x.matches(0), i == 0 || i == 3 ? 1 : 0);
            check.same("13: agenda(), case " + i, x.agenda(), i == 3 ? 1 : 0);
            check.same("13: facts(), case " + i, x.facts(), i == 0 ? 4 : i == 1 ? 1 : i == 2 ? 3 : 2);
        }
    }

    /** A match of another fact of the kind is another match, and SUPPORTs nothing for the one that fires. */
    private static void promise13AnotherFactInItsPlace() {
        for (int value = 0; value < 2; value++) {
            RuleForge x = new RuleForge();
            x.addRule(0);
            x.addCondition(0, EACH, 0, 1);
            x.addRetract(0, 0);
            x.addTold(0, false, 0);
            x.setValue(0, 1, 0, -1, value);
            x.addTold(0, true, 1);
            x.switchOn(0);
            x.state(0, 0, 0, 0);
            check.same("13: one fires", x.fire(1), 1);
            check.same("13: the other fact, with the same values or not", x.find(0, value, 0, 0), 1);
            check.same("13: no SUPPORT", x.find(1, 0, 0, 0), -1);
            check.same("13: it alone is there", x.facts() * 10 + x.next(), 12);
            check.isNotSo("13: its match waits", x.hasFired(0, 0));
            check.same("13: on the AGENDA", x.agenda(), 1);
        }
    }

    /** "RETRACT: the fact of that CONDITION in the match, if it is still there, is gone, STATED and SUPPORTED or not." */
    private static void promise13RetractIfStillThere() {
        RuleForge x = new RuleForge();
        x.addRule(0);
        x.addCondition(0, EACH, 0, 1);
        x.addCondition(0, EACH, 0, 1);
        x.addRetract(0, 0);
        x.addRetract(0, 1);
        x.addRetract(0, 0);
        x.switchOn(0);
        x.state(0, 0, 0, 0);
        check.same("13: the same fact three times", x.fire(1), 1);
        check.same("13: it is gone", x.facts(), 0);
        x.state(0, 1, 0, 0);
        x.state(0, 2, 0, 0);
        x.state(0, 3, 0, 0);
        check.same("13: the newest with itself", x.fire(1), 1);
        check.same("13: two are left", x.facts(), 2);
        check.same("13: and the next", x.fire(20), 2);
        check.same("13: none is left", x.facts(), 0);
        RuleForge y = new RuleForge();
        follow(y, 0, true, 1);
        y.addRule(-1);
        y.addCondition(1, EACH, 1, 1);
        y.addRetract(1, 0);
        y.switchOn(1);
        y.state(0, 0, 0, 0);
        check.same("13: SUPPORTED, and gone", y.fire(20), 2);
        check.same("13: the one that it rested on stays", y.facts(), 1);
        y.state(0, 1, 0, 0);
        y.fire(1);
        y.state(1, 1, 0, 0);
        check.same("13: STATED and SUPPORTED, and gone", y.fire(20), 1);
        check.same("13: two of kind 0 stay", y.facts(), 2);
    }

    /** "with the values that its variables have in it (also if it is there no more behind an ACTION)" */
    private static void promise13ValuesStay() {
        RuleForge x = new RuleForge();
        x.addRule(0);
        x.addCondition(0, EACH, 0, 1);
        x.addCondition(0, EACH, 1, 1);
        for (int slot = 0; slot < 3; slot++) {
            x.setTest(0, 0, slot, 4, slot);
            x.setTest(0, 1, slot, 4, slot + 3);
        }
        x.addRetract(0, 0);
        x.addTold(0, false, 0);
        x.addTold(0, false, 2);
        for (int slot = 0; slot < 3; slot++) {
            x.setValue(0, 1, slot, slot + 3, 0);
            x.setValue(0, 2, slot, slot, slot - 1);
        }
        x.switchOn(0);
        x.state(1, 10, 20, 30);
        x.state(0, -999, 0, 999);
        check.same("13: one fires", x.fire(1), 1);
        check.same("13: another fact has the place of the one that is gone", x.find(0, 10, 20, 30), 2);
        check.same("13: the values of the one that is gone", x.find(2, -999, 0, 999), 3);
    }

    /** A ring of one: a match that SUPPORTs its own fact. */
    private static void promise13SupportedByItself() {
        RuleForge x = new RuleForge();
        follow(x, 6, true, 6);
        x.state(6, 1, 0, 0);
        check.same("13: one fires", x.fire(20), 1);
        check.same("13: no fact is new", x.next(), 1);
        check.same("13: SUPPORTED by itself", x.supports(0), 1);
        check.same("13: it stays", x.takeBack(0), 0);
        check.same("13: as long as the rule is on", x.switchOff(0), 1);
        check.same("13: none is left", x.facts(), 0);
    }

    /** "A fact can be STATED, and it can be SUPPORTED by matches. As soon as it is neither, it is gone." */
    private static void promise13NeitherStatedNorSupported() {
        for (int i = 0; i < 3; i++) {
            RuleForge x = new RuleForge();
            int first = follow(x, 0, true, 1);
            int second = follow(x, 0, true, 1);
            x.addRule(0);
            x.addCondition(2, AT_LEAST, 1, 1);
            x.switchOn(2);
            x.state(0, 0, 0, 0);
            x.fire(20);
            x.state(1, 0, 0, 0);
            check.same("13: STATED, and SUPPORTED by two", x.supports(1), 2);
            // each of the three goes last once, and nothing is gone ahead of that
            check.same("13: ahead of the last", i == 0 ? x.takeBack(1) : x.switchOff(first), 0);
            check.same("13: ahead of the last", i == 1 ? x.takeBack(1) : x.switchOff(second), 0);
            check.same("13: still there", x.matches(2), 1);
            int last = i == 0 ? x.switchOff(first) : i == 1 ? x.switchOff(second) : x.takeBack(1);
            check.same("13: as soon as it is neither", last, 1);
            check.same("13: gone", x.matches(2), 0);
        }
    }

    /** "till nothing changes any more; only then the next ACTION is done": 30 in a row go behind one ACTION. */
    private static void promise13OnlyThenTheNextAction() {
        RuleForge x = new RuleForge();
        for (int r = 0; r < 5; r++) {
            x.addRule(9);
            x.addCondition(r, EACH, r, 1);
            x.setTest(r, 0, 2, 4, 0);
            x.addTold(r, true, (r + 1) % 5);
            x.setValue(r, 0, 2, 0, r == 4 ? 1 : 0);
            x.switchOn(r);
        }
        x.state(0, 0, 0, 0);
        x.fire(20);
        x.fire(20);
        check.same("13: a row of 30", x.facts(), 30);
        x.addRule(-9);
        x.addCondition(5, EACH, 0, 1);
        x.setTest(5, 0, 2, 1, 0);
        x.addRetract(5, 0);
        x.addTold(5, false, 4);
        x.setValue(5, 1, 2, -1, 5);
        x.switchOn(5);
        check.same("13: the last of the row is there", x.find(4, 0, 0, 5), 29);
        check.same("13: one fires", x.fire(1), 1);
        check.same("13: it was gone ahead of the STATE", x.find(4, 0, 0, 5), 30);
        check.same("13: it alone is there", x.facts(), 1);
    }

    /** "A match that is there no more SUPPORTS nothing any more", nor does the one that comes to be again. */
    private static void promise13NoSupportOfTheMatchThatCameAgain() {
        RuleForge x = new RuleForge();
        x.addRule(0);
        x.addCondition(0, EACH, 0, 1);
        x.addCondition(0, NONE, 1, 1);
        x.addTold(0, true, 2);
        x.addTold(0, true, 3);
        x.switchOn(0);
        x.state(0, 0, 0, 0);
        x.state(2, 0, 0, 0);
        x.fire(1);
        check.same("13: STATED and SUPPORTED", x.supports(1), 1);
        x.state(1, 0, 0, 0);
        check.same("13: the match is there no more", x.supports(1), 0);
        check.same("13: what it alone SUPPORTED is gone", x.find(3, 0, 0, 0), -1);
        x.retract(x.find(1, 0, 0, 0));
        check.same("13: it came to be again", x.matches(0), 1);
        check.same("13: and SUPPORTS nothing", x.supports(1), 0);
        check.same("13: nor does what it SUPPORTED come back", x.facts(), 2);
        x.fire(1);
        check.same("13: till it fires", x.supports(1), 1);
        check.same("13: with a new number", x.find(3, 0, 0, 0), 4);
    }

    /** "An object is used for at most 512 calls": numbers of facts as great as they become, and the AGENDA by them. */
    private static void promise13FiveHundredAndTwelveCalls() {
        RuleForge x = new RuleForge();
        x.addRule(9);
        x.addCondition(0, NONE, 2, 1);
        x.addTold(0, true, 0);
        x.addTold(0, true, 1);
        x.addTold(0, true, 2);
        check.same("13: a match without facts", x.switchOn(0), 1);
        x.addRule(0);
        x.addCondition(1, EACH, 3, 1);
        x.addCondition(1, EACH, 3, 1);
        x.addCondition(1, EACH, 3, 1);
        x.switchOn(1);
        check.same("13: the first fact", x.state(3, 1, 0, 0), 0);
        // each of these ends its own match by its third ACTION, so that it comes again; twelve calls went ahead
        for (int call = 13; call <= 394; call++) {
            check.same("13: twenty fire", x.fire(20), 20);
        }
        int second = 1 + 382 * 60;
        check.same("13: three new facts by each", x.state(3, 2, 0, 0), second);
        check.same("13: the next one", x.state(3, 3, 0, 0), second + 1);
        check.same("13: nothing rests on rule 0", x.switchOff(0), 0);
        int[][] rows = {{2, 2, 2}, {1, 2, 2}, {2, 1, 2}, {2, 2, 1}, {0, 2, 2}, {2, 0, 2}, {2, 2, 0}, {1, 1, 2}, {1, 2, 1},
            {2, 1, 1}, {0, 1, 2}, {0, 2, 1}, {1, 0, 2}, {1, 2, 0}, {2, 0, 1}, {2, 1, 0}, {0, 0, 2}, {0, 2, 0}, {2, 0, 0},
            {1, 1, 1}, {0, 1, 1}, {1, 0, 1}, {1, 1, 0}, {0, 0, 1}, {0, 1, 0}, {1, 0, 0}, {0, 0, 0}};
        int[] number = {0, second, second + 1};
        for (int[] row : rows) {
            for (int place = 0; place < 3; place++) {
                check.same("13: the greatest row, place " + place, x.nextFact(place), number[row[place]]);
            }
            check.same("13: it fires", x.fire(1), 1);
        }
        check.same("13: call 506: all FIRED", x.fired(), 382 * 20 + 27);
    }
}
