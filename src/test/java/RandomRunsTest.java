import java.lang.reflect.InvocationTargetException;
import java.lang.reflect.Method;
import java.util.HashMap;
import java.util.Map;
import java.util.Random;

/** Runs of drawn calls, always the same ones, answered by RuleForge and by PlainForge: all promises. */
public final class RandomRunsTest {
    private static final int RUNS = Integer.getInteger("runs", 400);
    private static final int FIRST = Integer.getInteger("first", 1);
    private static final int CALLS = 512;

    private final Map<String, Method> ours = new HashMap<>();
    private final Map<String, Method> plains = new HashMap<>();
    private final Map<String, Integer> answered = new HashMap<>();
    private int wrong = 0;

    private Random draw;
    private RuleForge forge;
    private PlainForge plain;
    private StringBuilder log;
    private int calls;
    private boolean differs;
    /** How many kinds, how wide the values, and how many of the calls are wrong inputs: drawn for each run. */
    private int kinds;
    private int width;
    private int wild;

    public static void main(String[] args) throws Exception {
        new RandomRunsTest().all();
    }

    private void all() throws Exception {
        for (Method m : RuleForge.class.getDeclaredMethods()) {
            if (java.lang.reflect.Modifier.isPublic(m.getModifiers())) {
                ours.put(m.getName(), m);
                plains.put(m.getName(), PlainForge.class.getMethod(m.getName(), m.getParameterTypes()));
                plains.get(m.getName()).setAccessible(true);
            }
        }
        for (int seed = FIRST; seed < FIRST + RUNS; seed++) {
            run(seed);
        }
        for (String name : ours.keySet()) {
            if (answered.getOrDefault(name, 0) == 0) {
                wrong++;
                System.out.println(name + " was never answered");
            }
        }
        System.out.println(RUNS + " runs, " + wrong + " wrong");
        if (wrong != 0) {
            System.exit(1);
        }
    }

    private void run(int seed) throws Exception {
        draw = new Random(seed);
        forge = new RuleForge();
        plain = new PlainForge();
        log = new StringBuilder();
        calls = 0;
        differs = false;
        kinds = 1 + draw.nextInt(4);
        width = 1 + draw.nextInt(4);
        wild = draw.nextInt(4);
        while (calls < CALLS && !differs) {
            step();
        }
        if (differs) {
            wrong++;
            if (wrong < 3) {
                System.out.println("run " + seed + ":\n" + log);
            }
        }
    }

    private void step() throws Exception {
        int what = draw.nextInt(100);
        if (draw.nextInt(40) < wild) {
            wrongCall();
        } else if (what < 6) {
            buildRule();
        } else if (what < 9) {
            change();
        } else if (what < 14) {
            call(draw.nextBoolean() ? "switchOn" : "switchOff", someRule());
        } else if (what < 34) {
            call("state", kind(), value(), value(), value());
        } else if (what < 40) {
            call(draw.nextBoolean() ? "takeBack" : "retract", someFact());
        } else if (what < 50) {
            call("fire", draw.nextInt(3) == 0 ? 1 + draw.nextInt(20) : 1 + draw.nextInt(3));
        } else if (what < 60) {
            call("digest");
        } else if (what < 68) {
            wouldBe();
        } else if (what < 78) {
            askRule();
        } else if (what < 88) {
            askFact();
        } else {
            askMatch();
        }
    }

    private void buildRule() throws Exception {
        int rule = plain.rules();
        if (rule == 6) {
            return;
        }
        call("addRule", draw.nextInt(3) == 0 ? draw.nextInt(19) - 9 : 0);
        int conditions = 1 + draw.nextInt(4);
        for (int c = 0; c < conditions; c++) {
            call("addCondition", rule, draw.nextInt(5) < 3 ? 0 : 1 + draw.nextInt(2), kind(), 1 + draw.nextInt(3));
            for (int tests = draw.nextInt(3); tests > 0; tests--) {
                drawTest(rule, c);
            }
        }
        for (int actions = draw.nextInt(4); actions > 0; actions--) {
            drawAction(rule);
        }
        if (draw.nextInt(4) > 0) {
            call("switchOn", rule);
        }
    }

    private void drawTest(int rule, int condition) throws Exception {
        int test = draw.nextInt(8);
        if (draw.nextBoolean()) {
            test = 4;
        }
        call("setTest", rule, condition, draw.nextInt(3), test, test < 4 ? value() : draw.nextInt(2));
        if (!plain.isSound(rule) && draw.nextInt(8) > 0) {
            call("setTest", rule, condition, draw.nextInt(3), 0, 0);
            for (int slot = 0; slot < 3 && !plain.isSound(rule); slot++) {
                call("setTest", rule, condition, slot, 0, 0);
            }
        }
    }

    private void drawAction(int rule) throws Exception {
        if (draw.nextInt(3) == 0) {
            call("addRetract", rule, draw.nextInt(plain.conditions(rule)));
            return;
        }
        int action = plain.actions(rule);
        call("addTold", rule, draw.nextInt(3) > 0, kind());
        for (int slot = 0; slot < 3; slot++) {
            int variable = draw.nextInt(3) - 1;
            int plus = draw.nextInt(12) == 0 ? draw.nextInt(1999) - 999 : draw.nextInt(3) - 1;
            call("setValue", rule, action, slot, variable, plus);
            if (!plain.isSound(rule)) {
                call("setValue", rule, action, slot, -1, plus);
            }
        }
    }

    private void change() throws Exception {
        int rule = someRule();
        switch (draw.nextInt(5)) {
            case 0 -> call("addCondition", rule, draw.nextInt(3), kind(), 1 + draw.nextInt(6));
            case 1 -> call("setTest", rule, draw.nextInt(4), draw.nextInt(3), draw.nextInt(8), draw.nextInt(6));
            case 2 -> call("addTold", rule, draw.nextBoolean(), kind());
            case 3 -> call("setValue", rule, draw.nextInt(3), draw.nextInt(3), draw.nextInt(4) - 1, value());
            default -> call("addRetract", rule, draw.nextInt(4));
        }
    }

    private void wouldBe() throws Exception {
        int most = 1 + draw.nextInt(20);
        switch (draw.nextInt(4)) {
            case 0 -> call("factsBehind", most);
            case 1 -> call("firingsToRest", most);
            case 2 -> call("wouldGo", someFact());
            default -> call("wouldHold", kind(), value(), value(), value(), most);
        }
    }

    private void askRule() throws Exception {
        String[] names = {"isOn", "isSound", "urgency", "conditions", "actions", "firings", "matches"};
        if (draw.nextInt(4) == 0) {
            call("candidates", someRule(), draw.nextInt(4));
        } else if (draw.nextInt(4) == 0) {
            call(draw.nextBoolean() ? "rules" : "fired");
        } else {
            call(names[draw.nextInt(names.length)], someRule());
        }
    }

    private void askFact() throws Exception {
        String[] names = {"isThere", "kindOf", "isStated", "supports", "because", "distance", "uses"};
        String[] alone = {"facts", "next", "meanSupports"};
        switch (draw.nextInt(5)) {
            case 0 -> call("find", kind(), value(), value(), value());
            case 1 -> call("valueOf", someFact(), draw.nextInt(3));
            case 2 -> call(alone[draw.nextInt(alone.length)]);
            default -> call(names[draw.nextInt(names.length)], someFact());
        }
    }

    private void askMatch() throws Exception {
        int rule = someRule();
        int match = rule >= 0 && rule < plain.rules() ? draw.nextInt(plain.matches(rule) + 1) : 0;
        switch (draw.nextInt(6)) {
            case 0 -> call("factOf", rule, match, draw.nextInt(4));
            case 1 -> call("hasFired", rule, match);
            case 2 -> call("variableOf", rule, match, draw.nextInt(6));
            case 3 -> call("agenda");
            case 4 -> call("nextRule");
            default -> call("nextFact", draw.nextInt(5) - 1);
        }
    }

    private void wrongCall() throws Exception {
        Object[] names = ours.keySet().stream().sorted().toArray();
        Method m = ours.get((String) names[draw.nextInt(names.length)]);
        Object[] args = new Object[m.getParameterCount()];
        for (int i = 0; i < args.length; i++) {
            args[i] = m.getParameterTypes()[i] == boolean.class ? (Object) draw.nextBoolean() : (Object) edge();
        }
        call(m.getName(), args);
    }

    private int edge() {
        int[] edges = {-1, 0, 1, 2, 3, 4, 5, 6, 7, 8, 9, 10, 20, 21, -9, -10, 999, 1000, -999, -1000,
            Integer.MAX_VALUE, Integer.MIN_VALUE};
        return edges[draw.nextInt(draw.nextBoolean() ? 6 : edges.length)];
    }

    private int kind() {
        return draw.nextInt(30) == 0 ? draw.nextInt(8) : draw.nextInt(kinds);
    }

    private int value() {
        return draw.nextInt(30) == 0 ? draw.nextInt(1999) - 999 : draw.nextInt(width);
    }

    private int someRule() {
        return draw.nextInt(20) == 0 ? draw.nextInt(8) - 1 : draw.nextInt(Math.max(1, plain.rules()));
    }

    private int someFact() {
        int next = plain.next();
        int fact = next == 0 ? 0 : draw.nextInt(next);
        for (int i = 0; i < next && !plain.isThere(fact) && draw.nextInt(200) > 0; i++) {
            fact = (fact + 1) % next;
        }
        return fact;
    }

    private void call(String name, Object... args) throws Exception {
        if (calls >= CALLS || differs) {
            return;
        }
        calls++;
        String got = answer(ours.get(name), forge, args);
        String due = answer(plains.get(name), plain, args);
        log.append(name).append(java.util.Arrays.toString(args)).append(" = ").append(got);
        if (!got.equals(due)) {
            differs = true;
            log.append(", due is ").append(due);
        } else if (!got.startsWith("throws")) {
            answered.merge(name, 1, Integer::sum);
        }
        log.append('\n');
    }

    private static String answer(Method m, Object on, Object[] args) throws Exception {
        try {
            return String.valueOf(m.invoke(on, args));
        } catch (InvocationTargetException e) {
            return "throws." + e.getCause().getClass().getName();
        }
    }
}
