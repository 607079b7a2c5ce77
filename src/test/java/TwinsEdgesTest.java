import java.util.NoSuchElementException;
import java.util.function.Supplier;

/** Promise 19, sentence by sentence: twins. */
public final class TwinsEdgesTest {
    private static final Class<NoSuchElementException> ELEMENT = NoSuchElementException.class;
    private static final Checks checks = new Checks();

    public static void main(String[] args) {
        checks.sentence("19: The first pair of states of the start belief", TwinsEdgesTest::ofTheStartBelief);
        checks.sentence("19: 16 times the lower one and the other one", TwinsEdgesTest::everyPair);
        checks.sentence("19: the least of these numbers", TwinsEdgesTest::leastNumber);
        checks.sentence("19: A row of one to three actions", TwinsEdgesTest::oneToThree);
        checks.sentence("19: each usable in the belief behind those before it", TwinsEdgesTest::usableBehind);
        checks.sentence("19: from the start belief on", TwinsEdgesTest::fromTheStartBelief);
        checks.sentence("19: without parts", TwinsEdgesTest::withoutParts);
        checks.sentence("19: when the fact that one of them senses is true behind it for one and false for the other",
                TwinsEdgesTest::trueForOneAndFalseForTheOther);
        checks.sentence("19: when there is none", TwinsEdgesTest::none);
        checks.end();
    }

    private static void ofTheStartBelief() {
        HiddenFacts x = new HiddenFacts();
        checks.due("twins() of all states, the least pair", x.twins(), 1);
        x.clause(15, 0);
        checks.due("twins() without state 0", x.twins(), 16 * 1 + 2);
        x.clause(14, 1);
        checks.due("twins() without state 1 too", x.twins(), 16 * 2 + 3);
        x.clear();
        x.clause(8, 0);
        x.clause(4, 0);
        x.clause(2, 0);
        checks.due("twins() of 14 and 15, the greatest pair", x.twins(), 16 * 14 + 15);
    }

    /** Without sensing, with what tells them apart, and with what tells all others apart. */
    private static void everyPair() {
        for (int low = 0; low < 16; low++) {
            for (int high = low + 1; high < 16; high++) {
                HiddenFacts x = new HiddenFacts();
                Scenes.onlyTwo(x, low, high);
                checks.due("start()", x.start(), 1 << low | 1 << high);
                checks.due("twins() of " + low + " and " + high, x.twins(), 16 * low + high);
                for (int f = 0; f < 4; f++) {
                    x.action(f, 0, 0, ((low ^ high) >> f & 1) != 0 ? -1 : f);
                }
                checks.due("twins(), sensing where they are alike", x.twins(), 16 * low + high);
                int differ = Integer.numberOfTrailingZeros(low ^ high);
                x.action(7, 0, 0, differ);
                checks.dueThrow("twins(), sensing where they are not", ELEMENT, x::twins);
            }
        }
    }

    /** With all facts sensed but one, the first pair differs in that one. */
    private static void leastNumber() {
        for (int without = 0; without < 4; without++) {
            HiddenFacts x = new HiddenFacts();
            for (int f = 0; f < 4; f++) {
                if (f != without) {
                    x.action(f, 0, 0, f);
                }
            }
            checks.due("twins(), fact " + without + " is not sensed", x.twins(), 1 << without);
            x.clause(1, 0);
            x.clause(0, 2);
            int pair = without < 2 ? -1 : 16 + 1 + (1 << without);
            checks.due("twins() of 1, 5, 9 and 13", Checks.answer(x::twins),
                    pair == -1 ? "NoSuchElementException" : String.valueOf(pair));
        }
        HiddenFacts late = new HiddenFacts();
        late.clause(8, 4);
        for (int f = 0; f < 3; f++) {
            late.action(f, 0, 0, f);
        }
        checks.due("twins(), the pairs of 0 to 3 come before that of 12 and 4", late.twins(), 8);
        late.clause(4, 8);
        checks.dueThrow("twins() of those whose facts 2 and 3 are alike", ELEMENT, late::twins);
    }

    /** Fact 0 alone is sensed; an action that senses nothing brings each fact one nearer to it. */
    private static Supplier<HiddenFacts> nearer(int states) {
        return () -> {
            HiddenFacts x = new HiddenFacts();
            for (int f = 0; f < 3; f++) {
                x.action(f, 0, 0, -1);
                x.effect(f, f, false, 0, 0);
                x.effect(f, f, true, 2 << f, 2 << f);
            }
            x.action(7, 0, 0, 0);
            Scenes.onlyTwo(x, 0, states);
            return x;
        };
    }

    private static void oneToThree() {
        checks.dueThrow("twins(), told by a row of one", ELEMENT, nearer(1).get()::twins);
        checks.dueThrow("twins(), told by a row of two", ELEMENT, nearer(2).get()::twins);
        checks.dueThrow("twins(), told by a row of three", ELEMENT, nearer(4).get()::twins);
        checks.due("twins(), a row of four would tell them", nearer(8).get().twins(), 8);
        HiddenFacts x = new HiddenFacts();
        Scenes.onlyTwo(x, 0, 1);
        checks.due("twins(), a row of none tells nothing", x.twins(), 1);
    }

    private static void usableBehind() {
        HiddenFacts x = new HiddenFacts();
        Scenes.onlyTwo(x, 0, 1);
        x.action(7, 14, 14, 0);
        checks.due("twins(), the action that senses is not usable", x.twins(), 1);
        x.action(0, 6, 6, -1);
        x.effect(0, 3, true, 0, 0);
        x.action(1, 0, 0, -1);
        x.effect(1, 1, true, 0, 0);
        checks.due("twins(), it is not behind the only one that can be used", x.twins(), 1);
        x.effect(1, 2, true, 0, 0);
        checks.dueThrow("twins(), it is behind two more", ELEMENT, x::twins);
        x.action(1, 1, 1, -1);
        x.effect(1, 1, true, 0, 0);
        x.effect(1, 2, true, 0, 0);
        checks.due("twins(), the first of them is usable in one state alone", x.twins(), 1);
        x.action(1, 0, 0, -1);
        x.effect(1, 1, true, 0, 0);
        x.effect(1, 2, true, 0, 0);
        x.action(0, 7, 7, -1);
        x.effect(0, 3, true, 0, 0);
        checks.due("twins(), the second of them is usable behind one state alone", x.twins(), 1);
    }

    /** All states of the start belief must let an action be used, not the two that it would tell apart. */
    private static void fromTheStartBelief() {
        HiddenFacts x = new HiddenFacts();
        x.clause(0, 8);
        x.clause(0, 4);
        x.action(0, 2, 0, 0);
        checks.due("start()", x.start(), 15);
        checks.due("twins(), usable in 0 and 1, not in 2 and 3", x.twins(), 1);
        x.clause(0, 2);
        checks.dueThrow("twins() of 0 and 1", ELEMENT, x::twins);
        HiddenFacts y = Scenes.busy();
        y.clause(1, 0);
        checks.dueThrow("twins() of one state", ELEMENT, y::twins);
        y.clear();
        y.action(0, 0, 0, 0);
        checks.due("twins() of all states behind clear", y.twins(), 2);
    }

    /** What is sensed does not part the belief: the next action must be usable in all of it. */
    private static void withoutParts() {
        HiddenFacts x = new HiddenFacts();
        x.clause(0, 8);
        x.clause(0, 4);
        x.action(0, 0, 0, 0);
        x.action(1, 1, 0, 1);
        x.action(2, 1, 1, 1);
        checks.due("twins(), usable in each part alone", x.twins(), 2);
        x.action(3, 0, 0, -1);
        x.effect(3, 0, false, 0, 0);
        checks.dueThrow("twins(), usable in all behind action 3", ELEMENT, x::twins);
    }

    private static void trueForOneAndFalseForTheOther() {
        HiddenFacts x = new HiddenFacts();
        Scenes.onlyTwo(x, 0, 1);
        x.action(0, 0, 0, 0);
        checks.dueThrow("twins(), false for the lower one", ELEMENT, x::twins);
        x.effect(0, 0, true, 0, 0);
        checks.due("twins(), true for both behind the action", x.twins(), 1);
        x.effect(0, 0, false, 0, 0);
        checks.due("twins(), false for both behind the action", x.twins(), 1);
        x.effect(0, 0, true, 1, 0);
        checks.dueThrow("twins(), true for the lower one behind the action", ELEMENT, x::twins);
        x.action(0, 0, 0, 3);
        x.effect(0, 3, true, 1, 1);
        checks.dueThrow("twins(), by a fact in which they were alike", ELEMENT, x::twins);
        x.action(0, 0, 0, 3);
        x.action(1, 0, 0, -1);
        x.effect(1, 3, true, 1, 1);
        checks.dueThrow("twins(), the later action of a row senses it", ELEMENT, x::twins);
        x.action(1, 0, 0, 0);
        x.action(0, 0, 0, -1);
        x.effect(0, 0, true, 0, 0);
        checks.dueThrow("twins(), the first action of a row senses it", ELEMENT, x::twins);
    }

    private static void none() {
        Supplier<HiddenFacts> told = () -> {
            HiddenFacts x = new HiddenFacts();
            for (int f = 0; f < 4; f++) {
                x.action(4 + f, 0, 0, f);
            }
            return x;
        };
        checks.refused("twins() of 16 states, all told apart", ELEMENT, told, HiddenFacts::twins);
        for (int s = 0; s < 16; s++) {
            HiddenFacts x = new HiddenFacts();
            Scenes.only(x, s);
            checks.dueThrow("twins() of state " + s + " alone", ELEMENT, x::twins);
        }
        Supplier<HiddenFacts> empty = () -> {
            HiddenFacts x = Scenes.busy();
            x.clause(0, 0);
            return x;
        };
        checks.refused("twins() of no state", ELEMENT, empty, HiddenFacts::twins);
    }
}
