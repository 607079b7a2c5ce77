import java.util.NoSuchElementException;
import java.util.function.Supplier;

/** Promises 11 to 14, sentence by sentence: nodes, node, edit, right. */
public final class PlanNodesEdgesTest {
    private static final Class<IndexOutOfBoundsException> INDEX = IndexOutOfBoundsException.class;
    private static final Class<IllegalStateException> STATE = IllegalStateException.class;
    private static final Class<NoSuchElementException> ELEMENT = NoSuchElementException.class;
    private static final Class<UnsupportedOperationException> UNSUPPORTED = UnsupportedOperationException.class;
    private static final Checks checks = new Checks();

    public static void main(String[] args) {
        checks.sentence("11: How many nodes the plan has", PlanNodesEdgesTest::howManyNodes);
        checks.sentence("11: 0 without one", PlanNodesEdgesTest::noNodes);
        checks.sentence("12: the action, or NONE for a leaf (0)", PlanNodesEdgesTest::actionOrNone);
        checks.sentence("12: the node for part 0 (1), for part 1 (2), or NONE", PlanNodesEdgesTest::partsOrNone);
        checks.sentence("12: when there is no such node", PlanNodesEdgesTest::noSuchNode);
        checks.sentence("12: or what", PlanNodesEdgesTest::noSuchWhat);
        checks.sentence("13: A node gets another action: the one it had", PlanNodesEdgesTest::anotherAction);
        checks.sentence("13: its parts, and all other nodes, stay", PlanNodesEdgesTest::othersStay);
        checks.sentence("13: when there is no such node", PlanNodesEdgesTest::editOfNoNode);
        checks.sentence("13: or number of an action", PlanNodesEdgesTest::editToNoNumber);
        checks.sentence("13: when the action is not there", PlanNodesEdgesTest::editToNone);
        checks.sentence("13: when the node is a leaf", PlanNodesEdgesTest::editOfALeaf);
        checks.sentence("14: Whether the plan is right as all is now", PlanNodesEdgesTest::asAllIsNow);
        checks.sentence("14: from the start belief on, in each belief that it comes to (part by part)",
                PlanNodesEdgesTest::eachBeliefThatItComesTo);
        checks.sentence("14: a node's action is there and usable", PlanNodesEdgesTest::actionIsUsable);
        checks.sentence("14: it has a node for each part that is not empty", PlanNodesEdgesTest::nodeForEachPart);
        checks.sentence("14: and the goal holds in all states at its leaves", PlanNodesEdgesTest::goalAtLeaves);
        checks.sentence("14: for an empty start belief it is", PlanNodesEdgesTest::rightForTheEmptyOne);
        checks.sentence("14: when there is no plan", PlanNodesEdgesTest::rightWithoutAPlan);
        checks.sentence("Terms: the least action that does it so", PlanNodesEdgesTest::leastAction);
        checks.sentence("Terms: and none for an empty one", PlanNodesEdgesTest::noneForAnEmptyPart);
        checks.sentence("Terms: equal plans are one", PlanNodesEdgesTest::equalPlans);
        checks.sentence("Terms: numbered from 0 on, as they come first", PlanNodesEdgesTest::asTheyComeFirst);
        checks.end();
    }

    private static void howManyNodes() {
        HiddenFacts leaf = new HiddenFacts();
        leaf.plan(4);
        checks.due("nodes() of a leaf, the fewest", leaf.nodes(), 1);
        for (int n = 1; n <= 4; n++) {
            HiddenFacts x = Scenes.path(n);
            Scenes.only(x, 0);
            x.plan(4);
            checks.due("nodes() of " + n + " actions in a row", x.nodes(), n + 1);
        }
        HiddenFacts full = Scenes.full();
        checks.due("nodes() of the largest plan", full.nodes(), 16);
        full.goal(0, 0);
        full.plan(4);
        checks.due("nodes() of a leaf behind the largest plan", full.nodes(), 1);
    }

    private static void noNodes() {
        HiddenFacts x = new HiddenFacts();
        checks.due("nodes() at first", x.nodes(), 0);
        x.goal(1, 1);
        checks.dueThrow("plan(4)", ELEMENT, () -> x.plan(4));
        checks.due("nodes() behind a refused plan", x.nodes(), 0);
        x.goal(0, 0);
        x.plan(0);
        x.clear();
        checks.due("nodes() behind clear", x.nodes(), 0);
    }

    private static void actionOrNone() {
        HiddenFacts x = Scenes.full();
        checks.due("node(0, 0)", x.node(0, 0), 0);
        checks.due("node(4, 0) of the leaf", x.node(4, 0), HiddenFacts.NONE);
        checks.due("node(15, 0)", x.node(15, 0), 3);
        HiddenFacts last = new HiddenFacts();
        last.action(7, 0, 0, -1);
        last.effect(7, 0, true, 0, 0);
        last.goal(1, 1);
        last.plan(4);
        checks.due("node(0, 0) of the last action", last.node(0, 0), 7);
        checks.due("node(1, 0) of the leaf", last.node(1, 0), HiddenFacts.NONE);
    }

    private static void partsOrNone() {
        HiddenFacts x = Scenes.full();
        checks.due("the whole plan", Checks.plan(x), Scenes.FULL_PLAN);
        checks.due("node(0, 1), both parts", x.node(0, 1), 1);
        checks.due("node(0, 2), both parts", x.node(0, 2), 9);
        checks.due("node(3, 1), part 0 alone", x.node(3, 1), 4);
        checks.due("node(3, 2), part 0 alone", x.node(3, 2), HiddenFacts.NONE);
        checks.due("node(15, 1), part 1 alone", x.node(15, 1), HiddenFacts.NONE);
        checks.due("node(15, 2), part 1 alone", x.node(15, 2), 4);
        checks.due("node(4, 1) of the leaf", x.node(4, 1), HiddenFacts.NONE);
        checks.due("node(4, 2) of the leaf", x.node(4, 2), HiddenFacts.NONE);
    }

    private static void noSuchNode() {
        HiddenFacts x = Scenes.busy();
        checks.due("node(0, 0), the first that is taken", x.node(0, 0), 1);
        checks.due("node(5, 0), the last that is taken", x.node(5, 0), 3);
        for (int i : Checks.outOf(0, 5)) {
            for (int what = 0; what < 3; what++) {
                int cell = what;
                checks.dueThrow("node(" + i + ", " + what + ")", INDEX, () -> x.node(i, cell));
            }
        }
        // Three times these, as a number of 32 bits, is 1, 2 and 4.
        int[] thirds = {0xAAAAAAAB, 0x55555556, 0xAAAAAAAC};
        for (int i : thirds) {
            checks.dueThrow("node(" + i + ", 0)", INDEX, () -> x.node(i, 0));
        }
        checks.refused("node(6, 0)", INDEX, Scenes::busy, y -> y.node(6, 0));
        checks.refused("node(16, 0)", INDEX, Scenes::full, y -> y.node(16, 0));
        x.goal(0, 0);
        x.plan(0);
        checks.dueThrow("node(1, 0) of a smaller plan", INDEX, () -> x.node(1, 0));
        x.clear();
        checks.dueThrow("node(0, 0) without a plan", INDEX, () -> x.node(0, 0));
    }

    private static void noSuchWhat() {
        HiddenFacts x = Scenes.busy();
        checks.due("node(4, 0), the first that is taken", x.node(4, 0), 2);
        checks.due("node(4, 2), the last that is taken", x.node(4, 2), HiddenFacts.NONE);
        for (int what : Checks.outOf(0, 2)) {
            checks.dueThrow("node(0, " + what + ")", INDEX, () -> x.node(0, what));
            checks.dueThrow("node(2, " + what + ")", INDEX, () -> x.node(2, what));
            checks.dueThrow("node(5, " + what + ")", INDEX, () -> x.node(5, what));
        }
        checks.refused("node(1, 3)", INDEX, Scenes::busy, y -> y.node(1, 3));
        checks.refused("node(1, -1)", INDEX, Scenes::busy, y -> y.node(1, -1));
    }

    private static void anotherAction() {
        HiddenFacts x = Scenes.full();
        checks.due("edit(0, 7), the first node, the last action", x.edit(0, 7), 0);
        checks.due("node(0, 0)", x.node(0, 0), 7);
        checks.due("edit(0, 0), back again", x.edit(0, 0), 7);
        checks.due("edit(15, 0), the last node, the first action", x.edit(15, 0), 3);
        checks.due("edit(15, 0), the action that it has", x.edit(15, 0), 0);
        checks.due("node(15, 0)", x.node(15, 0), 0);
        x.edit(15, 3);
        checks.due("the plan as it was", Checks.plan(x), Scenes.FULL_PLAN);
    }

    /** Each node that is not the leaf, one after the other; to an action with other sensing too. */
    private static void othersStay() {
        for (int a = 0; a < 8; a++) {
            for (int i = 0; i < 16; i++) {
                if (i != 4) {
                    HiddenFacts x = Scenes.full();
                    x.edit(i, a);
                    String[] nodes = Scenes.FULL_PLAN.split(" ");
                    nodes[i] = a + nodes[i].substring(1);
                    checks.due("the plan behind edit(" + i + ", " + a + ")", Checks.plan(x), String.join(" ", nodes));
                }
            }
        }
        HiddenFacts x = Scenes.busy();
        x.edit(2, 3);
        checks.due("nodes(), two of them equal now", x.nodes(), 6);
        checks.due("what was made", Checks.trace(x), "1 3 7");
    }

    private static void editOfNoNode() {
        HiddenFacts x = Scenes.busy();
        checks.due("edit(0, 1), the first that is taken", x.edit(0, 1), 1);
        checks.due("edit(5, 3), the last that is taken", x.edit(5, 3), 3);
        for (int i : Checks.outOf(0, 5)) {
            checks.refused("edit(" + i + ", 0)", INDEX, Scenes::busy, y -> y.edit(i, 0));
        }
        checks.refused("edit(16, 0)", INDEX, Scenes::full, y -> y.edit(16, 0));
        Supplier<HiddenFacts> noPlan = () -> {
            HiddenFacts y = new HiddenFacts();
            y.action(0, 0, 0, 0);
            return y;
        };
        checks.refused("edit(0, 0) without a plan", INDEX, noPlan, y -> y.edit(0, 0));
    }

    private static void editToNoNumber() {
        HiddenFacts x = Scenes.full();
        checks.due("edit(1, 0), the first that is taken", x.edit(1, 0), 1);
        checks.due("edit(1, 7), the last that is taken", x.edit(1, 7), 0);
        for (int a : Checks.outOf(0, 7)) {
            checks.refused("edit(0, " + a + ")", INDEX, Scenes::busy, y -> y.edit(0, a));
            checks.refused("edit(3, " + a + ") of a leaf", INDEX, Scenes::busy, y -> y.edit(3, a));
        }
    }

    private static void editToNone() {
        checks.refused("edit(0, 6)", ELEMENT, Scenes::busy, y -> y.edit(0, 6));
        checks.refused("edit(5, 7)", ELEMENT, Scenes::busy, y -> y.edit(5, 7));
        HiddenFacts x = Scenes.busy();
        x.action(7, 0, 0, 0);
        checks.due("edit(5, 7), now that it is there", x.edit(5, 7), 3);
    }

    private static void editOfALeaf() {
        for (int a = 0; a < 6; a++) {
            int number = a;
            checks.refused("edit(3, " + a + ")", UNSUPPORTED, Scenes::busy, y -> y.edit(3, number));
        }
        checks.refused("edit(4, 7)", UNSUPPORTED, Scenes::full, y -> y.edit(4, 7));
        Supplier<HiddenFacts> leaf = () -> {
            HiddenFacts y = new HiddenFacts();
            y.action(0, 0, 0, 0);
            y.plan(0);
            return y;
        };
        checks.refused("edit(0, 0) of a plan that is a leaf", UNSUPPORTED, leaf, y -> y.edit(0, 0));
    }

    private static void asAllIsNow() {
        HiddenFacts x = Scenes.busy();
        checks.due("right()", x.right(), true);
        x.goal(8, 8);
        checks.due("right() with another goal", x.right(), false);
        x.goal(6, 6);
        checks.due("right() with the goal again", x.right(), true);
        x.action(5, 1, 0, -1);
        checks.due("right() without effects", x.right(), false);
        x.effect(5, 1, true, 0, 0);
        x.effect(5, 2, true, 0, 0);
        checks.due("right() with its effects again", x.right(), true);
        x.effect(5, 2, false, 0, 0);
        checks.due("right() with a later effect that undoes one", x.right(), false);
        x.edit(2, 0);
        checks.due("right() with another action that does not do it", x.right(), false);
        x.clause(1, 0);
        checks.due("right() for a smaller start belief", x.right(), true);
        x.hide(9);
        x.execute();
        checks.due("right(): the hidden state does not matter", x.right(), true);
    }

    /** Only state 0 comes to the nodes 1 and 2, only state 1 to 4 and 5: each alone can be wrong. */
    private static void eachBeliefThatItComesTo() {
        int[] of0 = {1, 2};
        int[] of1 = {4, 5};
        for (int k = 0; k < 2; k++) {
            HiddenFacts x = Scenes.busy();
            x.edit(of0[k], 3);
            checks.due("right(), node " + of0[k] + " is wrong", x.right(), false);
            x.clause(1, 0);
            checks.due("right(), where it is not come to", x.right(), true);
            HiddenFacts y = Scenes.busy();
            y.edit(of1[k], 5);
            checks.due("right(), node " + of1[k] + " is wrong", y.right(), false);
            y.clause(0, 1);
            checks.due("right(), where it is not come to", y.right(), true);
        }
        HiddenFacts full = Scenes.full();
        checks.due("right() of the largest plan", full.right(), true);
        for (int i = 0; i < 16; i++) {
            if (i != 4) {
                int had = full.edit(i, 7);
                checks.due("right(), node " + i + " goes on with part 0 for all", full.right(), false);
                full.edit(i, had);
            }
        }
        checks.due("right() as it was", full.right(), true);
    }

    private static void actionIsUsable() {
        HiddenFacts x = Scenes.busy();
        x.action(0, 15, 0, -1);
        checks.due("right(), usable in the one state there", x.right(), true);
        x.action(0, 15, 1, -1);
        checks.due("right(), not usable there", x.right(), false);
        x.action(0, 0, 0, -1);
        x.action(1, 14, 0, 0);
        checks.due("right(), usable in all", x.right(), true);
        x.action(1, 1, 0, 0);
        checks.due("right(), usable in the first alone", x.right(), false);
        x.action(1, 1, 1, 0);
        checks.due("right(), usable in the last alone", x.right(), false);
    }

    private static void nodeForEachPart() {
        HiddenFacts x = new HiddenFacts();
        x.goal(8, 8);
        x.action(0, 0, 0, -1);
        x.effect(0, 3, true, 0, 0);
        x.plan(1);
        checks.due("the plan has part 0 alone", Checks.plan(x), "0/1/-1 -1/-1/-1");
        for (int sense = 0; sense < 4; sense++) {
            x.action(0, 0, 0, sense);
            x.effect(0, 3, true, 0, 0);
            checks.due("right(), part 1 by fact " + sense + " is not empty", x.right(), false);
        }
        x.clause(0, 1);
        x.action(0, 0, 0, 0);
        x.effect(0, 3, true, 0, 0);
        checks.due("right(), part 1 is empty now", x.right(), true);
        x.action(0, 0, 0, 3);
        x.effect(0, 3, true, 0, 0);
        x.plan(1);
        checks.due("the plan has part 1 alone", Checks.plan(x), "0/-1/1 -1/-1/-1");
        checks.due("right(), part 0 is empty", x.right(), true);
        x.action(0, 0, 0, 1);
        x.effect(0, 3, true, 0, 0);
        checks.due("right(), part 0 is not empty", x.right(), false);
        x.action(0, 0, 0, -1);
        x.effect(0, 3, true, 0, 0);
        checks.due("right(), without sensing all are part 0", x.right(), false);
        x.clause(2, 0);
        x.action(0, 0, 0, 1);
        x.effect(0, 3, true, 0, 0);
        checks.due("right(), part 0 is empty again", x.right(), true);
    }

    private static void goalAtLeaves() {
        HiddenFacts x = new HiddenFacts();
        x.plan(0);
        checks.due("right() of a leaf", x.right(), true);
        x.goal(15, 15);
        checks.due("right(), the goal holds in one state of 16", x.right(), false);
        for (int f = 0; f < 3; f++) {
            x.clause(1 << f, 0);
        }
        checks.due("right(), the goal holds in one state of two", x.right(), false);
        x.clause(8, 0);
        checks.due("right(), the goal holds in all that are left", x.right(), true);
        HiddenFacts y = Scenes.busy();
        y.goal(7, 7);
        checks.due("right(), it holds at the leaf for state 1 alone", y.right(), false);
        y.goal(7, 6);
        checks.due("right(), it holds at the leaf for state 0 alone", y.right(), false);
    }

    private static void rightForTheEmptyOne() {
        HiddenFacts x = Scenes.busy();
        x.goal(8, 8);
        x.edit(0, 4);
        checks.due("right() of what does nothing right", x.right(), false);
        x.clause(0, 0);
        checks.due("right() for the empty start belief", x.right(), true);
        HiddenFacts leaf = new HiddenFacts();
        leaf.plan(0);
        leaf.goal(15, 0);
        leaf.clause(0, 0);
        checks.due("right() of a leaf", leaf.right(), true);
    }

    private static void rightWithoutAPlan() {
        checks.refused("right() at first", STATE, HiddenFacts::new, HiddenFacts::right);
        Supplier<HiddenFacts> empty = () -> {
            HiddenFacts y = new HiddenFacts();
            y.clause(0, 0);
            return y;
        };
        checks.refused("right() for an empty start belief", STATE, empty, HiddenFacts::right);
        Supplier<HiddenFacts> refused = () -> {
            HiddenFacts y = new HiddenFacts();
            y.goal(1, 1);
            checks.dueThrow("plan(4)", ELEMENT, () -> y.plan(4));
            return y;
        };
        checks.refused("right() behind a refused plan", STATE, refused, HiddenFacts::right);
        HiddenFacts x = Scenes.busy();
        x.clear();
        checks.dueThrow("right() behind clear", STATE, x::right);
    }

    private static void leastAction() {
        HiddenFacts x = new HiddenFacts();
        x.goal(1, 1);
        for (int a = 7; a >= 0; a--) {
            x.action(a, 0, 0, -1);
            x.effect(a, 0, true, 0, 0);
            x.plan(4);
            checks.due("the action, " + a + " and above do it", x.node(0, 0), a);
        }
        x.action(0, 0, 0, -1);
        x.plan(4);
        checks.due("the action, 0 does nothing", x.node(0, 0), 1);
        HiddenFacts busy = Scenes.busy();
        checks.due("within two, an action that does nothing comes before", busy.node(1, 0), 0);
        busy.clause(0, 1);
        busy.plan(4);
        checks.due("within one, the action that does it", Checks.plan(busy), "5/1/-1 -1/-1/-1");
    }

    private static void noneForAnEmptyPart() {
        for (int f = 0; f < 3; f++) {
            HiddenFacts x = new HiddenFacts();
            x.goal(8, 8);
            x.action(2, 0, 0, f);
            x.effect(2, 3, true, 0, 0);
            x.plan(1);
            checks.due("no part is empty", Checks.plan(x), "2/1/1 -1/-1/-1");
            x.clause(0, 1 << f);
            x.plan(1);
            checks.due("part 1 is empty", Checks.plan(x), "2/1/-1 -1/-1/-1");
            x.clear();
            x.goal(8, 8);
            x.action(2, 0, 0, f);
            x.effect(2, 3, true, 0, 0);
            x.clause(1 << f, 0);
            x.plan(1);
            checks.due("part 0 is empty", Checks.plan(x), "2/-1/1 -1/-1/-1");
            x.action(2, 0, 0, -1);
            x.effect(2, 3, true, 0, 0);
            x.plan(1);
            checks.due("without sensing all are part 0", Checks.plan(x), "2/1/-1 -1/-1/-1");
        }
    }

    /** Behind sensing fact 0 both parts go on alike, or with another action, or with another part. */
    private static void equalPlans() {
        HiddenFacts x = new HiddenFacts();
        x.goal(6, 6);
        x.clause(0, 2);
        x.action(0, 2, 0, 0);
        x.effect(0, 1, true, 0, 0);
        x.action(1, 2, 2, -1);
        x.effect(1, 2, true, 0, 0);
        x.plan(4);
        checks.due("the same action with equal plans", Checks.plan(x), "0/1/1 1/2/-1 -1/-1/-1");
        x.action(1, 3, 2, -1);
        x.effect(1, 2, true, 0, 0);
        x.action(7, 3, 3, -1);
        x.effect(7, 2, true, 0, 0);
        x.plan(4);
        checks.due("another action", Checks.plan(x), "0/1/3 1/2/-1 -1/-1/-1 7/2/-1");
        x.action(1, 2, 2, 0);
        x.effect(1, 2, true, 0, 0);
        x.plan(4);
        checks.due("the same action, its leaf for another part", Checks.plan(x), "0/1/3 1/2/-1 -1/-1/-1 1/-1/2");
    }

    private static void asTheyComeFirst() {
        HiddenFacts x = Scenes.full();
        checks.due("the largest plan", Checks.plan(x), Scenes.FULL_PLAN);
        HiddenFacts busy = Scenes.busy();
        checks.due("a node that stands in part 1 comes behind all of part 0", busy.node(0, 2), 4);
        checks.due("a node of part 0 that part 1 needs too", busy.node(5, 1), 3);
    }
}
