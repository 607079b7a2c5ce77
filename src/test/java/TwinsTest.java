import java.util.NoSuchElementException;

/** Promise 19: twins. */
public final class TwinsTest {
    private static final Class<NoSuchElementException> ELEMENT = NoSuchElementException.class;
    private static final Checks checks = new Checks();

    public static void main(String[] args) {
        withoutSensing();
        leastPair();
        fewStates();
        sensedBehindTheAction();
        byALaterAction();
        atMostThree();
        usableInTheWholeBelief();
        withoutParts();
        checks.end();
    }

    private static void withoutSensing() {
        HiddenFacts x = new HiddenFacts();
        checks.due("twins() without actions", x.twins(), 1);
        x.action(0, 0, 0, -1);
        x.effect(0, 0, true, 0, 0);
        checks.due("twins() without sensing", x.twins(), 1);
        x.clause(10, 0);
        x.clause(0, 2);
        checks.due("twins() of 8, 9, 12, 13", x.twins(), 16 * 8 + 9);
    }

    private static void leastPair() {
        HiddenFacts x = new HiddenFacts();
        x.action(0, 0, 0, 0);
        checks.due("twins(), fact 0 told", x.twins(), 2);
        x.action(3, 0, 0, 1);
        checks.due("twins(), facts 0 and 1 told", x.twins(), 4);
        x.action(7, 0, 0, 3);
        checks.due("twins(), facts 0, 1 and 3 told", x.twins(), 4);
        x.action(5, 0, 0, 2);
        checks.dueThrow("twins(), all told", ELEMENT, x::twins);
        x.clear();
        x.action(0, 0, 0, 0);
        x.clause(1, 2);
        x.clause(2, 4);
        checks.due("start() of 0, 1, 3, 7 and 8 more than each", x.start(), 0x8B8B);
        checks.due("twins() in the start belief alone", x.twins(), 8);
    }

    private static void fewStates() {
        HiddenFacts x = new HiddenFacts();
        for (int f = 0; f < 4; f++) {
            x.clause(1 << f, 0);
        }
        checks.due("start()", x.start(), 1 << 15);
        checks.dueThrow("twins() of one state", ELEMENT, x::twins);
        x.clause(0, 0);
        checks.dueThrow("twins() of no state", ELEMENT, x::twins);
    }

    /** The action makes the fact that it senses the same everywhere, or what another fact was. */
    private static void sensedBehindTheAction() {
        HiddenFacts x = new HiddenFacts();
        x.action(0, 0, 0, 0);
        x.effect(0, 0, true, 0, 0);
        checks.due("twins(), fact 0 is the same behind it", x.twins(), 1);
        x.clause(0, 12);
        x.action(0, 0, 0, 0);
        x.effect(0, 0, false, 0, 0);
        x.effect(0, 0, true, 2, 2);
        checks.due("twins(), fact 1 is told by fact 0", x.twins(), 1);
        x.clear();
        x.clause(0, 4);
        x.clause(0, 8);
        x.clause(0, 1);
        x.action(0, 0, 0, 0);
        x.effect(0, 0, true, 2, 2);
        checks.dueThrow("twins() of 0 and 2", ELEMENT, x::twins);
    }

    /** Shifts what is known of fact f to fact f - 1, so many actions behind fact 0. */
    private static HiddenFacts shift() {
        HiddenFacts x = new HiddenFacts();
        x.action(0, 0, 0, 0);
        x.action(1, 0, 0, -1);
        x.effect(1, 0, false, 0, 0);
        x.effect(1, 0, true, 2, 2);
        x.effect(1, 1, false, 0, 0);
        x.effect(1, 1, true, 4, 4);
        return x;
    }

    private static void byALaterAction() {
        HiddenFacts x = shift();
        checks.due("twins(), facts 0 to 2 told by rows", x.twins(), 8);
        x.clause(8, 0);
        checks.dueThrow("twins() with fact 3 known", ELEMENT, x::twins);
    }

    private static void atMostThree() {
        HiddenFacts x = shift();
        x.action(2, 0, 0, -1);
        x.effect(2, 2, false, 0, 0);
        x.effect(2, 2, true, 8, 8);
        checks.due("twins(), fact 3 would need four actions", x.twins(), 8);
        x.action(1, 0, 0, 0);
        x.effect(1, 0, false, 0, 0);
        x.effect(1, 0, true, 2, 2);
        x.effect(1, 1, false, 0, 0);
        x.effect(1, 1, true, 4, 4);
        checks.dueThrow("twins(), fact 3 in three", ELEMENT, x::twins);
    }

    private static void usableInTheWholeBelief() {
        HiddenFacts x = new HiddenFacts();
        x.clause(0, 8);
        x.clause(0, 4);
        x.action(0, 1, 1, 1);
        checks.due("twins(), not usable in all", x.twins(), 1);
        x.action(1, 0, 0, -1);
        x.effect(1, 0, true, 0, 0);
        checks.due("twins(), usable behind another", x.twins(), 1);
        x.clause(1, 0);
        checks.dueThrow("twins() of 1 and 3", ELEMENT, x::twins);
    }

    /** Sensing fact 0 parts the belief, but rows go on with all of it. */
    private static void withoutParts() {
        HiddenFacts x = new HiddenFacts();
        x.clause(0, 8);
        x.clause(0, 4);
        x.action(0, 0, 0, 0);
        x.action(1, 1, 1, 1);
        checks.due("twins(), action 1 is never usable in all", x.twins(), 2);
        x.action(1, 0, 0, 1);
        checks.dueThrow("twins(), now it is", ELEMENT, x::twins);
    }
}
