/** What the tests share: counting what is wrong, and asking for exceptions. */
final class Check {
    interface Call {
        void run();
    }

    private int wrong = 0;
    private int asked = 0;

    void same(String what, long got, long due) {
        asked++;
        if (got != due) {
            wrong++;
            System.out.println(what + ": answered " + got + ", due is " + due);
        }
    }

    void same(String what, double got, double due) {
        asked++;
        if (got != due) {
            wrong++;
            System.out.println(what + ": answered " + got + ", due is " + due);
        }
    }

    void isSo(String what, boolean got) {
        same(what, got ? 1 : 0, 1);
    }

    void isNotSo(String what, boolean got) {
        same(what, got ? 1 : 0, 0);
    }

    /** The call throws just this exception, and changes nothing that the checksum sees. */
    void refuses(String what, RuleForge forge, Class<? extends RuntimeException> due, Call call) {
        asked++;
        long before = forge.digest();
        String got = "nothing";
        try {
            call.run();
        } catch (RuntimeException e) {
            got = e.getClass().getName();
        }
        if (!got.equals(due.getName())) {
            wrong++;
            System.out.println(what + ": threw " + got + ", due is " + due.getName());
        }
        if (forge.digest() != before) {
            wrong++;
            System.out.println(what + ": threw and changed something");
        }
    }

    void refusesIndex(String what, RuleForge forge, Call call) {
        refuses(what, forge, IndexOutOfBoundsException.class, call);
    }

    void refusesArgument(String what, RuleForge forge, Call call) {
        refuses(what, forge, IllegalArgumentException.class, call);
    }

    void refusesState(String what, RuleForge forge, Call call) {
        refuses(what, forge, IllegalStateException.class, call);
    }

    /** The last call of each test: exit code 1 if anything was wrong. */
    void end() {
        System.out.println(asked + " checks, " + wrong + " wrong");
        if (wrong != 0) {
            System.exit(1);
        }
    }
}
