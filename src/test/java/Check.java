import java.lang.reflect.Array;
import java.lang.reflect.Field;
import java.lang.reflect.Modifier;

/** What the tests share: counting what is wrong, and asking for exceptions. */
final class Check {
    interface Call {
        void run();
    }

    private int wrong = 0;
    private int asked = 0;

    void same(String what, long got, long due) {
        asked++;
        if (got != due) {
            wrong++;
            System.out.println(what + ": answered " + got + ", due is " + due);
        }
    }

    void same(String what, double got, double due) {
        asked++;
        if (got != due) {
            wrong++;
            System.out.println(what + ": answered " + got + ", due is " + due);
        }
    }

    void isSo(String what, boolean got) {
        same(what, got ? 1 : 0, 1);
    }

    void isNotSo(String what, boolean got) {
        same(what, got ? 1 : 0, 0);
    }

    /** The call throws just this exception, and changes nothing: neither the checksum nor any field inside. */
    void refuses(String what, RuleForge forge, Class<? extends RuntimeException> due, Call call) {
        asked++;
        long before = forge.digest();
        // the checksum does not see the tests of a condition or the values of an action
        long inside = fold(1, forge, 0);
        String got = "nothing";
        try {
            call.run();
        } catch (RuntimeException e) {
            got = e.getClass().getName();
        }
        if (!got.equals(due.getName())) {
            wrong++;
            System.out.println(what + ": threw " + got + ", due is " + due.getName());
        }
        if (fold(1, forge, 0) != inside || forge.digest() != before) {
            wrong++;
            System.out.println(what + ": threw and changed something");
        }
    }

    /** One number for all that an object holds, as deep as it goes. */
    private static long fold(long start, Object o, int depth) {
        if (o == null || depth > 9) {
            return start * 31 + 7;
        }
        long d = start;
        Class<?> type = o.getClass();
        if (type.isArray()) {
            for (int i = 0; i < Array.getLength(o); i++) {
                d = o instanceof int[] ints ? d * 31 + ints[i]
                    : o instanceof long[] longs ? d * 31 + longs[i]
                    : o instanceof boolean[] flags ? d * 31 + (flags[i] ? 1 : 0)
                    : fold(d, Array.get(o, i), depth + 1);
            }
            return d;
        }
        if (o instanceof Number || o instanceof Boolean) {
            return d * 31 + o.hashCode();
        }
        try {
            for (Field f : type.getDeclaredFields()) {
                if (!Modifier.isStatic(f.getModifiers())) {
                    f.setAccessible(true);
                    d = fold(d, f.get(o), depth + 1);
                }
            }
        } catch (IllegalAccessException e) {
            throw new UnsupportedOperationException(e);
        }
        return d;
    }

    void refusesIndex(String what, RuleForge forge, Call call) {
        refuses(what, forge, IndexOutOfBoundsException.class, call);
    }

    void refusesArgument(String what, RuleForge forge, Call call) {
        refuses(what, forge, IllegalArgumentException.class, call);
    }

    void refusesState(String what, RuleForge forge, Call call) {
        refuses(what, forge, IllegalStateException.class, call);
    }

    /** The last call of each test: exit code 1 if anything was wrong. */
    void end() {
        System.out.println(asked + " checks, " + wrong + " wrong");
        if (wrong != 0) {
            System.exit(1);
        }
    }
}
