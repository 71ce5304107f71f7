import java.lang.reflect.Method;

/**
 * The bounds of every argument of every call that has some (promises 2 to 13, 15 to 21, 26 to 36 and 42 to 45):
 * just inside, just outside, far outside, and two arguments outside at once, where the exception that the
 * document names first is due. A call that throws changes nothing.
 */
public final class BoundsTest {
    /** What an argument outside its bounds leads to: an index, an argument, or nothing. */
    private static final char INDEX = 'i';
    private static final char ARGUMENT = 'a';

    private static final class Bound {
        final int least;
        final int most;
        final char kind;

        Bound(int least, int most, char kind) {
            this.least = least;
            this.most = most;
            this.kind = kind;
        }

        int[] outside() {
            return new int[] {least - 1, least - 2, least - 100, Integer.MIN_VALUE,
                most + 1, most + 2, most + 100, Integer.MAX_VALUE};
        }
    }

    private static final Check check = new Check();

    public static void main(String[] args) {
        building();
        facts();
        asked();
        wouldBe();
        aheadOfState();
        check.end();
    }

    /** Rule 0 is off, with two conditions and two actions; rule 1 is on, with two matches; facts 0 and 1. */
    private static RuleForge made() {
        RuleForge x = new RuleForge();
        x.addRule(0);
        x.addCondition(0, 0, 0, 1);
        x.addCondition(0, 1, 1, 1);
        x.addTold(0, true, 2);
        x.addTold(0, false, 2);
        x.addRule(3);
        x.addCondition(1, 0, 0, 1);
        x.addCondition(1, 2, 0, 1);
        x.setTest(1, 0, 0, 4, 0);
        x.addTold(1, true, 3);
        x.addTold(1, false, 4);
        x.switchOn(1);
        x.state(0, 1, 2, 3);
        x.state(0, 4, 5, 6);
        return x;
    }

    private static Bound index(int least, int most) {
        return new Bound(least, most, INDEX);
    }

    private static Bound argument(int least, int most) {
        return new Bound(least, most, ARGUMENT);
    }

    private static void building() {
        Bound rule = index(0, 1);
        Bound part = index(0, 1);
        Bound slot = argument(0, 2);
        Bound kind = argument(0, 7);
        bounds("addRule", argument(-9, 9));
        bounds("addCondition", rule, argument(0, 2), kind, argument(1, 6));
        bounds("setTest", rule, part, slot, argument(0, 3), argument(-999, 999));
        bounds("setTest", rule, part, slot, argument(4, 7), argument(0, 5));
        bounds("addTold", rule, null, kind);
        bounds("setValue", rule, part, slot, argument(-1, 5), argument(-999, 999));
        bounds("addRetract", rule, argument(0, 3));
        bounds("switchOn", rule);
        bounds("switchOff", rule);
    }

    private static void facts() {
        Bound value = argument(-999, 999);
        bounds("state", argument(0, 7), value, value, value);
        bounds("takeBack", index(0, 1));
        bounds("retract", index(0, 1));
        bounds("fire", argument(1, 20));
    }

    private static void asked() {
        Bound rule = index(0, 1);
        for (String name : new String[] {"isOn", "isSound", "urgency", "conditions", "actions", "firings", "matches"}) {
            bounds(name, rule);
        }
        bounds("candidates", rule, index(0, 1));
        for (String name : new String[] {"kindOf", "isStated", "supports", "because", "distance", "uses"}) {
            bounds(name, index(0, 1));
        }
        bounds("valueOf", index(0, 1), index(0, 2));
        bounds("factOf", index(1, 1), index(0, 1), index(0, 0));
        bounds("hasFired", index(1, 1), index(0, 1));
        bounds("variableOf", index(1, 1), index(0, 1), index(0, 5));
    }

    private static void wouldBe() {
        bounds("factsBehind", argument(1, 20));
        bounds("firingsToRest", argument(1, 20));
        bounds("wouldGo", index(0, 1));
        bounds("wouldHold", null, null, null, null, argument(1, 20));
    }

    /** A rule that is on, or full, or a kind that is full: what the arguments lead to comes ahead of that. */
    private static void aheadOfState() {
        RuleForge x = made();
        for (int i = 0; i < 4; i++) {
            x.state(0, 10 + i, 0, 0);
        }
        check.refusesState("on", x, () -> x.addCondition(1, 0, 0, 1));
        check.refusesState("on", x, () -> x.setTest(1, 0, 0, 0, 0));
        check.refusesState("on", x, () -> x.addTold(1, true, 0));
        check.refusesState("on", x, () -> x.setValue(1, 0, 0, 0, 0));
        check.refusesState("on", x, () -> x.addRetract(1, 0));
        check.refusesState("six of a kind", x, () -> x.state(0, 0, 0, 0));
        check.refusesArgument("sort ahead of on", x, () -> x.addCondition(1, 3, 0, 1));
        check.refusesArgument("n ahead of on", x, () -> x.addCondition(1, 0, 0, 7));
        check.refusesIndex("condition ahead of on", x, () -> x.setTest(1, 2, 0, 0, 0));
        check.refusesArgument("test ahead of on", x, () -> x.setTest(1, 0, 0, 8, 0));
        check.refusesArgument("v ahead of on", x, () -> x.setTest(1, 0, 0, 4, 6));
        check.refusesArgument("kind ahead of on", x, () -> x.addTold(1, true, 8));
        check.refusesIndex("action ahead of on", x, () -> x.setValue(1, 2, 0, 0, 0));
        check.refusesArgument("variable ahead of on", x, () -> x.setValue(1, 0, 0, 7, 0));
        check.refusesArgument("plus ahead of on", x, () -> x.setValue(1, 0, 0, 0, 1000));
        check.refusesArgument("condition ahead of on", x, () -> x.addRetract(1, 4));
        check.refusesArgument("a value ahead of six of a kind", x, () -> x.state(0, 0, 0, -1000));
    }

    /** A bound that is null: any argument will do. */
    private static void bounds(String name, Bound... all) {
        for (int i = 0; i < all.length; i++) {
            if (all[i] == null) {
                continue;
            }
            inside(name, all, i, all[i].least);
            inside(name, all, i, all[i].most);
            for (int value : all[i].outside()) {
                // the numbers of tests 0 to 3 and 4 to 7 have bounds of their own, so the test itself counts alone
                boolean isOtherTest = name.equals("setTest") && i == 3 && value >= 0 && value <= 7;
                if (!isOtherTest) {
                    outside(name, all, i, value);
                }
            }
        }
    }

    private static void inside(String name, Bound[] all, int i, int value) {
        RuleForge x = made();
        int[] numbers = fitting(all);
        numbers[i] = value;
        String thrown = "";
        try {
            run(x, name, numbers);
        } catch (IndexOutOfBoundsException | IllegalArgumentException e) {
            thrown = e.toString();
        } catch (IllegalStateException e) {
            // the arguments are fine, and the state of the rule or the fact is not asked for here
            thrown = "";
        }
        check.isSo(name + " takes " + value + " as argument " + i + thrown, thrown.isEmpty());
    }

    private static void outside(String name, Bound[] all, int i, int value) {
        RuleForge x = made();
        int[] numbers = fitting(all);
        numbers[i] = value;
        String what = name + " of " + value + " as argument " + i;
        check.refuses(what, x, due(all[i].kind), () -> run(x, name, numbers));
        for (int j = 0; j < all.length; j++) {
            if (j == i || all[j] == null) {
                continue;
            }
            int[] both = numbers.clone();
            both[j] = Integer.MAX_VALUE;
            char first = all[i].kind == INDEX || all[j].kind == INDEX ? INDEX : ARGUMENT;
            check.refuses(what + ", with argument " + j, x, due(first), () -> run(x, name, both));
        }
    }

    private static Class<? extends RuntimeException> due(char kind) {
        return kind == INDEX ? IndexOutOfBoundsException.class : IllegalArgumentException.class;
    }

    private static int[] fitting(Bound[] all) {
        int[] numbers = new int[all.length];
        for (int i = 0; i < all.length; i++) {
            numbers[i] = all[i] == null ? 1 : all[i].least;
        }
        return numbers;
    }

    private static void run(RuleForge x, String name, int[] numbers) {
        try {
            for (Method m : RuleForge.class.getDeclaredMethods()) {
                if (m.getName().equals(name)) {
                    Object[] args = new Object[numbers.length];
                    for (int i = 0; i < args.length; i++) {
                        args[i] = m.getParameterTypes()[i] == boolean.class ? (Object) (numbers[i] > 0) : numbers[i];
                    }
                    m.invoke(x, args);
                }
            }
        } catch (java.lang.reflect.InvocationTargetException e) {
            throw (RuntimeException) e.getCause();
        } catch (IllegalAccessException e) {
            throw new UnsupportedOperationException(e);
        }
    }
}
