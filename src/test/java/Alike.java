import java.util.function.Supplier;

/** Engines that are made by the same calls, so that they answer alike, and none is called more than 512 times. */
final class Alike {
    private static final int QUESTIONS = 300;

    private final Supplier<RuleForge> made;
    private RuleForge engine;
    private int left = 0;

    Alike(Supplier<RuleForge> made) {
        this.made = made;
    }

    /** One of them, for one question. */
    RuleForge one() {
        if (left == 0) {
            engine = made.get();
            left = QUESTIONS;
        }
        left--;
        return engine;
    }
}
