import java.math.BigInteger;
import java.util.ArrayList;
import java.util.List;
import java.util.function.Consumer;
import java.util.function.Supplier;

/**
 * Promises 42 to 46 at their edges: as many firings as just do and one too few, nothing there yet and as many as
 * may be, the checksum that wraps around, and each refused call.
 */
public final class WouldBeEdgesTest {
    private static final int EACH = 0;
    private static final int NONE = 1;
    private static final int LEAST = Integer.MIN_VALUE;
    private static final int MOST = Integer.MAX_VALUE;

    private static final Check check = new Check();

    public static void main(String[] args) {
        promises42To45Most();
        promise42UpToEach();
        promise42Fewer();
        promise43JustSoMany();
        promise43Empty();
        promise43WithoutEnd();
        promise44NoSuchFact();
        promise44HowMany();
        promise45UpToEach();
        promise45OutOfBounds();
        promise45GoneBehind();
        promises42To46ChangeNothing();
        promise46NothingThereYet();
        promise46WrapsAround();
        promise46EachNumber();
        promise46AsMuchAsMayBe();
        promise46AlongARun();
        check.end();
    }

    /** An engine with so many matches on its AGENDA, that do nothing when they fire. */
    private static RuleForge waiting(int matches) {
        RuleForge x = new RuleForge();
        x.addRule(0);
        x.addCondition(0, EACH, 0, 1);
        x.addCondition(0, EACH, 1, 1);
        x.setTest(0, 0, 0, 4, 0);
        x.setTest(0, 1, 0, 4, 1);
        x.switchOn(0);
        // six pairs by each fact of kind 0, and the rest one by one
        for (int i = 0; i < 6 && matches > 0; i++) {
            x.state(1, i, 0, 0);
        }
        for (int i = 0; i < matches / 6; i++) {
            x.state(0, i, 0, 0);
        }
        x.addRule(-1);
        x.addCondition(1, EACH, 2, 1);
        x.switchOn(1);
        for (int i = 0; i < matches % 6; i++) {
            x.state(2, i, 0, 0);
        }
        return x;
    }

    /** "Throws `IllegalArgumentException` if most is not 1 to 20" */
    private static void promises42To45Most() {
        for (int i = 0; i < 2; i++) {
            RuleForge x = i == 0 ? new RuleForge() : Full.row();
            for (int most : new int[] {0, -1, 21, 22, -20, LEAST, MOST}) {
                check.refusesArgument("42: most " + most, x, () -> x.factsBehind(most));
                check.refusesArgument("43: most " + most, x, () -> x.firingsToRest(most));
                check.refusesArgument("45: most " + most, x, () -> x.wouldHold(0, 0, 0, 0, most));
                check.refusesArgument("45: most ahead of the rest", x, () -> x.wouldHold(8, 1000, 0, 0, most));
            }
            for (int most = 1; most <= 20; most++) {
                check.same("42: most " + most, x.factsBehind(most), 36 * i);
                check.same("43: most " + most, x.firingsToRest(most), 0);
                check.same("45: most " + most, x.wouldHold(0, 0, 0, 0, most) ? 1 : 0, i);
            }
        }
    }

    /** "Returns how many facts there would be behind fire() of as many.": 1 to 20, one more fact by each. */
    private static void promise42UpToEach() {
        RuleForge x = Full.row();
        x.retract(1);
        check.same("42: one is left", x.facts(), 1);
        check.same("42: nothing waits, as that match FIRED", x.factsBehind(20), 1);
        x.state(1, 0, 0, 0);
        for (int most = 1; most <= 20; most++) {
            check.same("42: behind " + most, x.factsBehind(most), 2 + most);
        }
        check.same("42: as many now as ahead of that", x.facts(), 2);
        x.fire(20);
        for (int most = 1; most <= 20; most++) {
            check.same("42: up to the end of the row", x.factsBehind(most), Math.min(36, 22 + most));
        }
    }

    /** Facts may be gone behind it, and none be left. */
    private static void promise42Fewer() {
        RuleForge x = Full.engine();
        x.addCondition(4, EACH, 0, 1);
        x.addRetract(4, 0);
        x.switchOn(4);
        for (int most = 1; most <= 20; most++) {
            check.same("42: behind " + most, x.factsBehind(most), Math.max(0, 48 - 8 * most));
        }
        check.same("42: as many now as ahead of that", x.facts(), 48);
        check.same("13: six fire", x.fire(20), 6);
        check.same("42: none is left", x.factsBehind(1), 0);
    }

    /** "how many would FIRE till the AGENDA is empty; -1 if it is not behind so many": just so many, and one less. */
    private static void promise43JustSoMany() {
        for (int matches = 0; matches <= 21; matches++) {
            RuleForge x = waiting(matches);
            check.same("37: so many wait", x.agenda(), matches);
            for (int most = 1; most <= 20; most++) {
                check.same("43: " + most + " of " + matches, x.firingsToRest(most), matches <= most ? matches : -1);
            }
            check.same("43: none FIRED", x.fired(), 0);
        }
    }

    /** Empty from the first on: 0, also with rules that are on and facts. */
    private static void promise43Empty() {
        RuleForge x = Full.engine();
        check.same("43: all FIRED", x.firingsToRest(1), 0);
        check.same("43: all FIRED", x.firingsToRest(20), 0);
        x.retract(0);
        check.same("43: one of the six is gone", x.firingsToRest(1), 0);
        x.state(0, 0, 0, 0);
        check.same("43: it, and the three that rest on it and fire", x.firingsToRest(4), 4);
        check.same("43: one less", x.firingsToRest(3), -1);
    }

    /** A rule whose match comes again by each firing: never empty. */
    private static void promise43WithoutEnd() {
        RuleForge x = new RuleForge();
        x.addRule(0);
        x.addCondition(0, NONE, 0, 1);
        x.addTold(0, true, 0);
        x.switchOn(0);
        for (int most = 1; most <= 20; most++) {
            check.same("43: behind " + most, x.firingsToRest(most), -1);
            check.same("42: it is gone each time", x.factsBehind(most), 0);
            check.isNotSo("45: it is gone each time", x.wouldHold(0, 0, 0, 0, most));
        }
        check.same("23: no number is used", x.next(), 0);
    }

    /** "Throws `IndexOutOfBoundsException` if there is no fact with this number now" */
    private static void promise44NoSuchFact() {
        RuleForge x = new RuleForge();
        check.refusesIndex("44: none there yet", x, () -> x.wouldGo(0));
        x.state(2, 0, 0, 0);
        x.state(2, 1, 0, 0);
        x.retract(0);
        x.state(2, 0, 0, 0);
        for (int fact : new int[] {-1, 0, 3, 48, LEAST, MOST}) {
            check.refusesIndex("44: fact " + fact, x, () -> x.wouldGo(fact));
        }
        check.same("44: the first", x.wouldGo(1), 1);
        check.same("44: the last", x.wouldGo(2), 1);
        check.same("44: both are there", x.facts(), 2);
    }

    /** "Returns how many facts would be gone by retract(), it itself counted.": one to 48. */
    private static void promise44HowMany() {
        RuleForge x = Full.oneHoldsAll();
        check.same("44: all at once", x.wouldGo(0), 48);
        for (int i = 0; i < 48; i++) {
            int left = 5 - x.valueOf(i, 0);
            int due = x.kindOf(i) == 0 ? 8 * (left + 1) : x.kindOf(i) == 1 ? 4 : x.kindOf(i) == 2 ? 3 : 1;
            check.same("44: fact " + i, x.wouldGo(i), due);
        }
        check.same("44: all are there", x.facts(), 48);
        RuleForge y = Full.row();
        for (int i = 0; i < 36; i++) {
            check.same("44: all behind it", y.wouldGo(i), 36 - i);
        }
        y.state(y.kindOf(20), 0, 0, y.valueOf(20, 2));
        check.same("44: up to the one that is STATED", y.wouldGo(5), 15);
        check.same("44: STATED or not", y.wouldGo(20), 16);
        check.same("12: as retract() does", y.retract(5), 15);
    }

    /** "whether there would be a fact of this kind with these values behind fire() of so many": just so many, one less. */
    private static void promise45UpToEach() {
        for (int fact = 2; fact <= 23; fact++) {
            RuleForge x = Full.row();
            x.retract(1);
            x.state(1, 0, 0, 0);
            for (int most = 1; most <= 20; most++) {
                boolean would = x.wouldHold(fact % 6, 0, 0, fact / 6, most);
                check.same("45: fact " + fact + " behind " + most, would ? 1 : 0, fact <= most + 1 ? 1 : 0);
                check.isNotSo("45: another a", x.wouldHold(fact % 6, 1, 0, fact / 6, most));
                check.isNotSo("45: another b", x.wouldHold(fact % 6, 0, 1, fact / 6, most));
            }
            check.same("45: as many now as ahead of that", x.facts(), 2);
        }
    }

    /** No kind or value is refused: there would be no such fact. */
    private static void promise45OutOfBounds() {
        RuleForge x = new RuleForge();
        for (int kind = 0; kind < 8; kind++) {
            x.state(kind, 999, -999, 999);
        }
        for (int wrong : new int[] {-1, 8, 9, LEAST, MOST}) {
            check.isNotSo("45: kind " + wrong, x.wouldHold(wrong, 999, -999, 999, 1));
        }
        for (int wrong : new int[] {-1000, 1000, LEAST, MOST}) {
            check.isNotSo("45: a " + wrong, x.wouldHold(0, wrong, -999, 999, 20));
            check.isNotSo("45: b " + wrong, x.wouldHold(0, 999, wrong, 999, 20));
            check.isNotSo("45: c " + wrong, x.wouldHold(0, 999, -999, wrong, 20));
        }
        for (int kind = 0; kind < 8; kind++) {
            check.isSo("45: kind " + kind, x.wouldHold(kind, 999, -999, 999, 1));
        }
    }

    /** One that is there now may be gone behind it. */
    private static void promise45GoneBehind() {
        RuleForge x = new RuleForge();
        for (int i = 0; i < 6; i++) {
            x.state(0, i, 0, 0);
        }
        check.isSo("45: it is there", x.wouldHold(0, 3, 0, 0, 20));
        x.addRule(0);
        x.addCondition(0, EACH, 0, 1);
        x.addRetract(0, 0);
        x.switchOn(0);
        for (int i = 0; i < 6; i++) {
            for (int most = 1; most <= 20; most++) {
                // the newest goes first
                check.same("45: " + i + " behind " + most, x.wouldHold(0, i, 0, 0, most) ? 1 : 0, i + most < 6 ? 1 : 0);
            }
        }
        check.same("45: all are there", x.facts(), 6);
    }

    /** "what would be (nothing is changed)": neither a number that is used, nor what FIRED. */
    private static void promises42To46ChangeNothing() {
        for (int asked = 0; asked < 6; asked++) {
            RuleForge x = Full.engine();
            RuleForge y = Full.engine();
            for (int round = 0; round < 6; round++) {
                if (round == asked) {
                    askWhatWouldBe(x);
                }
                check.same("46: as the other one", x.digest(), y.digest());
                check.same("12: goes on alike", x.retract(round), y.retract(round));
                check.same("10: goes on alike", x.state(0, round, 0, 0), y.state(0, round, 0, 0));
                check.same("13: goes on alike", x.fire(3), y.fire(3));
                check.same("23: goes on alike", x.next(), y.next());
                check.same("46: as the other one", x.digest(), y.digest());
            }
        }
    }

    private static void askWhatWouldBe(RuleForge x) {
        for (int most = 1; most <= 20; most++) {
            x.factsBehind(most);
            x.firingsToRest(most);
            x.wouldHold(most % 8, 0, 0, 0, most);
        }
        int next = x.next();
        for (int fact = 0; fact < next; fact++) {
            if (x.isThere(fact)) {
                x.wouldGo(fact);
            }
        }
        x.digest();
    }

    /** "A number d starts with 58028": no rules, no facts, three times -1 for nextFact() and once for nextRule(). */
    private static void promise46NothingThereYet() {
        long d = 58028;
        for (long number : new long[] {0, 0, 0, 0, -1, -1, -1, -1, 0}) {
            d = d * 31 + number;
        }
        check.same("46: nothing there yet", new RuleForge().digest(), d);
        check.same("46: as a number", new RuleForge().digest(), 1534238394738462484L);
    }

    /** "d becomes d * 31 + x, which wraps around as a 64-bit integer": below and above the bounds, and many times. */
    private static void promise46WrapsAround() {
        BigInteger most = BigInteger.valueOf(Long.MAX_VALUE);
        check.isSo("46: nothing there yet, it just fits", unbounded(RuleForge::new).compareTo(most) <= 0);
        boolean isLess = false;
        boolean isMore = false;
        for (int rules = 1; rules <= 6; rules++) {
            int count = rules;
            Supplier<RuleForge> made = () -> withRules(count);
            long digest = made.get().digest();
            check.isSo("46: it does not fit", unbounded(made).compareTo(most) > 0);
            check.same("46: wraps around", digest, unbounded(made).longValue());
            isLess |= digest < 0;
            isMore |= digest > 0;
        }
        check.isSo("46: below 0 and above", isLess && isMore);
    }

    private static RuleForge withRules(int count) {
        RuleForge x = new RuleForge();
        for (int r = 0; r < count; r++) {
            x.addRule(r - 9);
        }
        return x;
    }

    /** Each of the numbers counts: whatever call changes one of them changes the checksum. */
    private static void promise46EachNumber() {
        List<Consumer<RuleForge>> steps = List.of(
            x -> x.addCondition(4, EACH, 5, 1),
            x -> x.setTest(4, 0, 0, 5, 0),
            x -> {
                x.setTest(4, 0, 0, 0, 0);
                x.addTold(4, true, 5);
            },
            x -> x.switchOn(4),
            x -> x.fire(1),
            x -> x.state(5, 0, 0, 0),
            x -> {
                x.takeBack(x.find(5, 0, 0, 0));
                x.retract(x.find(6, 0, 0, 0));
            });
        List<Long> all = sumsAlong("each number", Full::engine, steps);
        for (int i = 0; i < all.size(); i++) {
            check.same("46: differs from all ahead of it", all.indexOf(all.get(i)), i);
        }
    }

    /** With 48 facts, with 1296 matches, and in between. */
    private static void promise46AsMuchAsMayBe() {
        List<Consumer<RuleForge>> steps = List.of(x -> x.fire(20), x -> x.retract(3), x -> x.switchOff(0));
        sumsAlong("48 facts", Full::engine, steps);
        sumsAlong("one that holds all", Full::oneHoldsAll, steps);
        sumsAlong("a row", Full::row, steps);
        sumsAlong("1296 matches", Full::matches, steps);
    }

    /** Facts and matches of all ages, places with and without facts. */
    private static void promise46AlongARun() {
        List<Consumer<RuleForge>> steps = new ArrayList<>();
        for (int rule = 0; rule < 6; rule++) {
            int r = rule;
            steps.add(x -> addRuleWithPlaces(x, r));
            steps.add(x -> x.fire(2));
        }
        steps.add(x -> {
            x.state(7, 0, 0, 0);
            check.same("46: no rule has a match", x.agenda(), 0);
        });
        sumsAlong("a run", RuleForge::new, steps);
    }

    private static void addRuleWithPlaces(RuleForge x, int r) {
        x.addRule(r % 3);
        for (int c = 0; c < r % 4; c++) {
            x.addCondition(r, EACH, c, 1);
        }
        x.addCondition(r, NONE, 7, 1);
        x.addTold(r, r % 2 == 0, 6 - r);
        x.switchOn(r);
        x.state(r % 3, -999 + r, 0, 999 - r);
    }

    /** The checksums ahead of the steps and behind each, looked at. */
    private static List<Long> sumsAlong(String what, Supplier<RuleForge> start, List<Consumer<RuleForge>> steps) {
        List<Long> all = new ArrayList<>();
        for (int done = 0; done <= steps.size(); done++) {
            List<Consumer<RuleForge>> those = steps.subList(0, done);
            Supplier<RuleForge> made = () -> behind(start, those);
            long digest = made.get().digest();
            check.same("46: " + what + ", " + done + " steps done", digest, unbounded(made).longValue());
            all.add(digest);
        }
        return all;
    }

    private static RuleForge behind(Supplier<RuleForge> start, List<Consumer<RuleForge>> steps) {
        RuleForge x = start.get();
        for (Consumer<RuleForge> step : steps) {
            step.accept(x);
        }
        return x;
    }

    /** The checksum without the wrap-around, of all numbers that the document names, as the calls answer them. */
    private static BigInteger unbounded(Supplier<RuleForge> made) {
        Alike alike = new Alike(made);
        List<Long> numbers = new ArrayList<>();
        RuleForge x = alike.one();
        add(numbers, x.rules(), x.facts(), x.next(), x.agenda(), x.nextRule());
        add(numbers, x.nextFact(0), x.nextFact(1), x.nextFact(2), x.fired());
        int rules = x.rules();
        int next = x.next();
        for (int r = 0; r < rules; r++) {
            addRuleNumbers(numbers, alike, r);
        }
        for (int f = 0; f < next; f++) {
            if (alike.one().isThere(f)) {
                addFactNumbers(numbers, alike, f);
            }
        }
        BigInteger d = BigInteger.valueOf(58028);
        for (long number : numbers) {
            d = d.multiply(BigInteger.valueOf(31)).add(BigInteger.valueOf(number));
        }
        return d;
    }

    private static void addRuleNumbers(List<Long> numbers, Alike alike, int r) {
        add(numbers, alike.one().isOn(r) ? 1 : 0, alike.one().isSound(r) ? 1 : 0, alike.one().urgency(r));
        add(numbers, alike.one().conditions(r), alike.one().actions(r), alike.one().firings(r));
        int matches = alike.one().matches(r);
        add(numbers, matches);
        for (int m = 0; m < matches; m++) {
            for (int place = 0; hasPlace(alike.one(), r, m, place); place++) {
                add(numbers, alike.one().factOf(r, m, place));
            }
            add(numbers, alike.one().hasFired(r, m) ? 1 : 0);
        }
    }

    private static void addFactNumbers(List<Long> numbers, Alike alike, int f) {
        add(numbers, f, alike.one().kindOf(f));
        add(numbers, alike.one().valueOf(f, 0), alike.one().valueOf(f, 1), alike.one().valueOf(f, 2));
        add(numbers, alike.one().isStated(f) ? 1 : 0, alike.one().supports(f), alike.one().because(f));
        add(numbers, alike.one().distance(f), alike.one().uses(f));
    }

    private static void add(List<Long> numbers, int... more) {
        for (int number : more) {
            numbers.add((long) number);
        }
    }

    private static boolean hasPlace(RuleForge x, int rule, int match, int place) {
        try {
            return x.factOf(rule, match, place) >= 0;
        } catch (IndexOutOfBoundsException e) {
            return false;
        }
    }
}
