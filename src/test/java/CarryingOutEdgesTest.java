import java.util.function.Supplier;

/** Promises 15 to 18, sentence by sentence: hide, execute, made, trace. */
public final class CarryingOutEdgesTest {
    private static final Class<IndexOutOfBoundsException> INDEX = IndexOutOfBoundsException.class;
    private static final Class<IllegalArgumentException> ARGUMENT = IllegalArgumentException.class;
    private static final Class<IllegalStateException> STATE = IllegalStateException.class;
    private static final Checks checks = new Checks();

    public static void main(String[] args) {
        checks.sentence("15: Hides a state (any)", CarryingOutEdgesTest::hidesAny);
        checks.sentence("15: whether it is of the start belief", CarryingOutEdgesTest::isOfTheStartBelief);
        checks.sentence("15: when it is not 0 .. 15", CarryingOutEdgesTest::noSuchState);
        checks.sentence("16: Carries the plan out from the hidden state", CarryingOutEdgesTest::carriesOut);
        checks.sentence("16: which itself stays", CarryingOutEdgesTest::hiddenStateStays);
        checks.sentence("16: whether it comes to a leaf, and the goal holds there",
                CarryingOutEdgesTest::comesToALeaf);
        checks.sentence("16: It ends before an action that is not there, or whose condition does not hold",
                CarryingOutEdgesTest::endsBeforeAnAction);
        checks.sentence("16: and where there is no node for what was sensed", CarryingOutEdgesTest::endsWithoutANode);
        checks.sentence("16: when there is no plan", CarryingOutEdgesTest::noPlan);
        checks.sentence("16: or no hidden state", CarryingOutEdgesTest::nothingHidden);
        checks.sentence("17: How many actions the latest carrying out made", CarryingOutEdgesTest::howManyMade);
        checks.sentence("17: 0 without one", CarryingOutEdgesTest::madeWithoutOne);
        checks.sentence("18: The state behind the k-th of these actions (0 the first)",
                CarryingOutEdgesTest::stateBehindTheKth);
        checks.sentence("18: when there is none", CarryingOutEdgesTest::noneBehindTheKth);
        checks.end();
    }

    /** The path 0, 1, .. to the state n, with its plan from 0 on; nothing is hidden. */
    private static HiddenFacts planned(int n) {
        HiddenFacts x = Scenes.path(n);
        Scenes.only(x, 0);
        x.plan(4);
        return x;
    }

    private static void hidesAny() {
        HiddenFacts x = new HiddenFacts();
        x.plan(0);
        x.clause(0, 0);
        for (int s = 0; s < 16; s++) {
            x.hide(s);
            x.goal(15, s);
            checks.due("execute() from " + s + ", which is the goal", x.execute(), true);
            x.goal(15, 15 - s);
            checks.due("execute() from " + s + ", which is not", x.execute(), false);
        }
    }

    private static void isOfTheStartBelief() {
        for (int start = 0; start < 16; start++) {
            HiddenFacts x = new HiddenFacts();
            Scenes.only(x, start);
            for (int s = 0; s < 16; s++) {
                checks.due("hide(" + s + ") with the start belief of " + start, x.hide(s), s == start);
            }
        }
        HiddenFacts x = new HiddenFacts();
        for (int s = 0; s < 16; s++) {
            checks.due("hide(" + s + ") with all states", x.hide(s), true);
        }
        x.clause(0, 0);
        for (int s = 0; s < 16; s++) {
            checks.due("hide(" + s + ") with no state", x.hide(s), false);
        }
    }

    private static void noSuchState() {
        HiddenFacts x = new HiddenFacts();
        checks.due("hide(0), the first that is taken", x.hide(0), true);
        checks.due("hide(15), the last that is taken", x.hide(15), true);
        for (int s : Checks.outOf(0, 15)) {
            checks.refused("hide(" + s + ")", ARGUMENT, Scenes::busy, y -> y.hide(s));
            checks.refused("hide(" + s + ") with nothing hidden", ARGUMENT, HiddenFacts::new, y -> y.hide(s));
        }
    }

    private static void carriesOut() {
        for (int n = 0; n <= 4; n++) {
            HiddenFacts x = planned(n);
            x.hide(0);
            checks.due("execute() of " + n + " actions", x.execute(), true);
            checks.due("made()", x.made(), n);
            checks.due("trace", Checks.trace(x), "1 2 3 4".substring(0, n == 0 ? 0 : 2 * n - 1));
        }
        HiddenFacts full = Scenes.full();
        for (int s = 0; s < 8; s++) {
            full.hide(s);
            checks.due("execute() of the largest plan from " + s, full.execute(), true);
            checks.due("trace", Checks.trace(full), s + " " + s + " " + s + " " + (s + 8));
        }
        full.hide(13);
        checks.due("execute() from out of the start belief", full.execute(), true);
        checks.due("trace", Checks.trace(full), "13 13 13 13");
    }

    private static void hiddenStateStays() {
        HiddenFacts x = planned(4);
        x.hide(0);
        for (int k = 0; k < 3; k++) {
            checks.due("execute(), time " + k, x.execute(), true);
            checks.due("trace", Checks.trace(x), "1 2 3 4");
        }
        x.goal(15, 0);
        checks.due("plan(0) of state 0", x.plan(0), 0);
        checks.due("execute(), behind another plan", x.execute(), true);
        x.clause(0, 0);
        checks.due("execute(), behind a clause", x.execute(), true);
        x.action(7, 0, 0, 0);
        x.effect(7, 0, true, 0, 0);
        checks.due("execute(), behind an action", x.execute(), true);
    }

    private static void comesToALeaf() {
        HiddenFacts leaf = new HiddenFacts();
        leaf.plan(0);
        leaf.hide(3);
        checks.due("execute() of a leaf", leaf.execute(), true);
        leaf.goal(4, 4);
        checks.due("execute() of a leaf out of the goal", leaf.execute(), false);
        leaf.goal(4, 0);
        checks.due("execute() of a leaf in the goal", leaf.execute(), true);
        HiddenFacts x = planned(2);
        x.hide(0);
        x.goal(15, 1);
        checks.due("execute(), the goal holds on the way alone", x.execute(), false);
        checks.due("trace, it does not end there", Checks.trace(x), "1 2");
        x.goal(2, 2);
        checks.due("execute(), another goal holds at the leaf", x.execute(), true);
        x.hide(2);
        checks.due("execute() from the goal, but not at a leaf", x.execute(), false);
        checks.due("made()", x.made(), 0);
    }

    /** Before the k-th action of four: the state is right before it, and none of it is made. */
    private static void endsBeforeAnAction() {
        for (int k = 0; k < 4; k++) {
            HiddenFacts x = planned(4);
            x.hide(0);
            x.goal(0, 0);
            x.action(k, 15, 15, -1);
            checks.due("execute(), action " + k + " cannot be used, the goal holds", x.execute(), false);
            checks.due("made()", x.made(), k);
            checks.due("trace", Checks.trace(x), "1 2 3 4".substring(0, k == 0 ? 0 : 2 * k - 1));
            x.action(k, 15, k, -1);
            x.edit(k, (k + 1) % 4);
            checks.due("execute(), node " + k + " has an action of another state", x.execute(), false);
            checks.due("made()", x.made(), k);
        }
        HiddenFacts wide = Scenes.busy();
        wide.action(1, 1, 1, 0);
        checks.due("execute(): the condition holds in the hidden state, if not in all", wide.execute(), true);
        wide.hide(0);
        checks.due("execute() from the other state", wide.execute(), false);
        checks.due("made()", wide.made(), 0);
    }

    /** The sensing action is made, and nothing behind it. */
    private static void endsWithoutANode() {
        for (int k = 0; k < 4; k++) {
            HiddenFacts x = planned(4);
            x.hide(0);
            x.goal(0, 0);
            Scenes.step(x, k, Integer.numberOfTrailingZeros(k + 1));
            checks.due("execute(), action " + k + " senses what is true", x.execute(), false);
            checks.due("made()", x.made(), k + 1);
            checks.due("the last state", x.trace(k), k + 1);
            Scenes.step(x, k, 3);
            checks.due("execute(), action " + k + " senses what is false", x.execute(), true);
            checks.due("made()", x.made(), 4);
        }
        HiddenFacts last = new HiddenFacts();
        last.clause(1, 0);
        last.goal(2, 2);
        last.action(0, 0, 0, 0);
        last.effect(0, 1, true, 0, 0);
        last.plan(1);
        checks.due("the plan has part 1 alone", Checks.plan(last), "0/-1/1 -1/-1/-1");
        last.hide(0);
        checks.due("execute(), no node for false", last.execute(), false);
        checks.due("trace", Checks.trace(last), "2");
        last.action(0, 0, 0, -1);
        last.effect(0, 1, true, 0, 0);
        checks.due("execute(), without sensing it goes on as for false", last.execute(), false);
        checks.due("trace", Checks.trace(last), "2");
    }

    private static void noPlan() {
        Supplier<HiddenFacts> hidden = () -> {
            HiddenFacts y = new HiddenFacts();
            y.hide(15);
            return y;
        };
        checks.refused("execute() with a hidden state", STATE, hidden, HiddenFacts::execute);
        checks.refused("execute() without both", STATE, HiddenFacts::new, HiddenFacts::execute);
        HiddenFacts x = Scenes.busy();
        x.clear();
        x.hide(0);
        checks.dueThrow("execute() behind clear", STATE, x::execute);
        x.plan(0);
        checks.due("execute() with both", x.execute(), true);
    }

    private static void nothingHidden() {
        checks.refused("execute() with a plan", STATE, () -> planned(4), HiddenFacts::execute);
        HiddenFacts x = planned(4);
        checks.dueThrow("hide(16)", ARGUMENT, () -> x.hide(16));
        checks.dueThrow("execute() behind a refused hide", STATE, x::execute);
        x.hide(0);
        checks.due("execute() with state 0", x.execute(), true);
        HiddenFacts y = Scenes.busy();
        y.clear();
        y.plan(0);
        checks.dueThrow("execute() behind clear", STATE, y::execute);
        checks.due("made()", y.made(), 0);
    }

    private static void howManyMade() {
        for (int n = 0; n <= 4; n++) {
            HiddenFacts x = planned(n);
            x.hide(0);
            x.execute();
            checks.due("made() of " + n, x.made(), n);
        }
        HiddenFacts x = planned(4);
        x.hide(0);
        x.execute();
        x.hide(1);
        checks.due("made() behind hide", x.made(), 4);
        checks.due("execute() from 1", x.execute(), false);
        checks.due("made() of the latest, which made none", x.made(), 0);
        x.hide(0);
        x.execute();
        x.plan(4);
        x.edit(0, 1);
        x.action(0, 15, 15, -1);
        checks.due("made() behind plan, edit and action", x.made(), 4);
        checks.due("right()", x.right(), false);
        checks.due("made() behind right", x.made(), 4);
    }

    private static void madeWithoutOne() {
        HiddenFacts x = new HiddenFacts();
        checks.due("made() at first", x.made(), 0);
        checks.dueThrow("execute()", STATE, x::execute);
        checks.due("made() behind a refused execute", x.made(), 0);
        HiddenFacts y = planned(4);
        checks.due("made() behind plan", y.made(), 0);
        y.hide(0);
        checks.due("made() behind hide", y.made(), 0);
        y.execute();
        y.clear();
        checks.due("made() behind clear", y.made(), 0);
    }

    private static void stateBehindTheKth() {
        HiddenFacts x = planned(4);
        x.hide(0);
        x.execute();
        for (int k = 0; k < 4; k++) {
            checks.due("trace(" + k + ")", x.trace(k), k + 1);
        }
        HiddenFacts full = Scenes.full();
        checks.due("trace(3), the last of four", full.trace(3), 13);
        full.hide(15);
        checks.due("trace(3) behind hide", full.trace(3), 13);
        full.execute();
        checks.due("trace(0) of the latest, the greatest state", full.trace(0), 15);
    }

    private static void noneBehindTheKth() {
        for (int n = 0; n <= 4; n++) {
            HiddenFacts x = planned(n);
            x.hide(0);
            x.execute();
            for (int k : Checks.outOf(0, n - 1)) {
                checks.dueThrow("trace(" + k + ") of " + n, INDEX, () -> x.trace(k));
            }
        }
        HiddenFacts x = planned(4);
        x.hide(0);
        x.execute();
        x.action(2, 15, 15, -1);
        x.execute();
        checks.due("trace(1), the last of the latest", x.trace(1), 2);
        checks.dueThrow("trace(2), of the one before", INDEX, () -> x.trace(2));
        checks.dueThrow("trace(0) at first", INDEX, () -> new HiddenFacts().trace(0));
        checks.refused("trace(3)", INDEX, Scenes::busy, y -> y.trace(3));
        checks.refused("trace(-1)", INDEX, Scenes::busy, y -> y.trace(-1));
        checks.refused("trace(4)", INDEX, Scenes::full, y -> y.trace(4));
    }
}
