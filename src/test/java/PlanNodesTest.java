import java.util.NoSuchElementException;

/** Promises 11 to 14: nodes, node, edit, right. */
public final class PlanNodesTest {
    private static final Class<IndexOutOfBoundsException> INDEX = IndexOutOfBoundsException.class;
    private static final Checks checks = new Checks();

    public static void main(String[] args) {
        leastActionNotLeastDepth();
        equalPlansAreOne();
        aPlanIsNotItsOwnPart();
        numbersComeInOrder();
        largestPlan();
        wrongNodes();
        edit();
        wrongEdit();
        right();
        rightNeedsANodeForEachPart();
        rightOfNothing();
        checks.end();
    }

    private static void leastActionNotLeastDepth() {
        HiddenFacts x = Scenes.idle();
        checks.due("plan(4)", x.plan(4), 3);
        checks.due("nodes()", x.nodes(), 6);
        checks.due("the plan", Checks.plan(x), "1/1/4 0/2/-1 5/3/-1 -1/-1/-1 2/5/-1 3/3/-1");
    }

    private static void equalPlansAreOne() {
        HiddenFacts x = new HiddenFacts();
        x.goal(6, 6);
        x.action(0, 2, 0, 0);
        x.effect(0, 1, true, 0, 0);
        x.action(1, 2, 2, -1);
        x.effect(1, 2, true, 0, 0);
        x.clause(0, 2);
        checks.due("plan(4)", x.plan(4), 2);
        checks.due("both parts have one plan", Checks.plan(x), "0/1/1 1/2/-1 -1/-1/-1");
    }

    private static void aPlanIsNotItsOwnPart() {
        HiddenFacts x = new HiddenFacts();
        x.goal(1, 0);
        x.action(6, 0, 0, 0);
        x.effect(6, 0, true, 1, 0);
        x.effect(6, 0, false, 1, 1);
        checks.due("plan(4)", x.plan(4), 2);
        checks.due("the same action with part 0 alone", Checks.plan(x), "6/1/2 -1/-1/-1 6/1/-1");
        x.goal(1, 1);
        checks.due("plan(4)", x.plan(4), 2);
        checks.due("the same action with part 1 alone", Checks.plan(x), "6/1/2 6/-1/2 -1/-1/-1");
    }

    private static void numbersComeInOrder() {
        HiddenFacts x = new HiddenFacts();
        x.goal(3, 3);
        x.action(0, 0, 0, 0);
        x.action(1, 1, 0, -1);
        x.effect(1, 0, true, 0, 0);
        x.action(2, 2, 0, -1);
        x.effect(2, 1, true, 0, 0);
        x.action(3, 0, 0, 1);
        checks.due("plan(4)", x.plan(4), 4);
        checks.due("a plan before what is in it, part 0 before part 1", Checks.plan(x),
                "0/1/5 1/2/-1 3/3/4 2/4/-1 -1/-1/-1 0/-1/2");
    }

    /**
     * Three facts are sensed; each of the actions 3 to 6 makes fact 3 true in one state and in its
     * opposite, which it tells apart by fact 0: no two of the eight last nodes are equal.
     */
    private static void largestPlan() {
        HiddenFacts x = new HiddenFacts();
        x.goal(8, 8);
        x.clause(0, 8);
        for (int f = 0; f < 3; f++) {
            x.action(f, 0, 0, f);
        }
        for (int s = 0; s < 4; s++) {
            x.action(3 + s, 0, 0, 0);
            x.effect(3 + s, 3, true, 7, s);
            x.effect(3 + s, 3, true, 7, 7 - s);
        }
        checks.due("plan(4)", x.plan(4), 4);
        checks.due("nodes()", x.nodes(), 16);
        checks.due("the largest plan", Checks.plan(x), "0/1/9 1/2/6 2/3/5 3/4/-1 -1/-1/-1 6/4/-1 2/7/8"
                + " 5/4/-1 4/4/-1 1/10/13 2/11/12 4/-1/4 5/-1/4 2/14/15 6/-1/4 3/-1/4");
        checks.due("right()", x.right(), true);
    }

    private static void wrongNodes() {
        HiddenFacts x = new HiddenFacts();
        checks.due("nodes() without a plan", x.nodes(), 0);
        checks.dueThrow("node(0, 0) without a plan", INDEX, () -> x.node(0, 0));
        x.plan(0);
        checks.due("nodes()", x.nodes(), 1);
        checks.dueThrow("node(-1, 0)", INDEX, () -> x.node(-1, 0));
        checks.dueThrow("node(1, 0)", INDEX, () -> x.node(1, 0));
        checks.dueThrow("node(0, -1)", INDEX, () -> x.node(0, -1));
        checks.dueThrow("node(0, 3)", INDEX, () -> x.node(0, 3));
        checks.due("node(0, 2)", x.node(0, 2), -1);
    }

    private static void edit() {
        HiddenFacts x = Scenes.idle();
        x.plan(4);
        checks.due("edit(1, 5)", x.edit(1, 5), 0);
        checks.due("node 1 alone is changed", Checks.plan(x),
                "1/1/4 5/2/-1 5/3/-1 -1/-1/-1 2/5/-1 3/3/-1");
        checks.due("edit(4, 3)", x.edit(4, 3), 2);
        checks.due("edit(5, 3), the one it has", x.edit(5, 3), 3);
        checks.due("edit(4, 2)", x.edit(4, 2), 3);
        checks.due("edit(1, 0)", x.edit(1, 0), 5);
        checks.due("edit(0, 0)", x.edit(0, 0), 1);
        checks.due("parts stay", Checks.plan(x), "0/1/4 0/2/-1 5/3/-1 -1/-1/-1 2/5/-1 3/3/-1");
        x.edit(2, 0);
        checks.due("nodes that become equal stay two", x.nodes(), 6);
    }

    private static void wrongEdit() {
        HiddenFacts x = Scenes.idle();
        Class<NoSuchElementException> element = NoSuchElementException.class;
        checks.dueThrow("edit(0, 0) without a plan", INDEX, () -> x.edit(0, 0));
        x.plan(4);
        String plan = Checks.plan(x);
        checks.dueThrow("edit(-1, 0)", INDEX, () -> x.edit(-1, 0));
        checks.dueThrow("edit(6, 4)", INDEX, () -> x.edit(6, 4));
        checks.dueThrow("edit(0, -1)", INDEX, () -> x.edit(0, -1));
        checks.dueThrow("edit(3, 8)", INDEX, () -> x.edit(3, 8));
        checks.dueThrow("edit(0, 4)", element, () -> x.edit(0, 4));
        checks.dueThrow("edit(3, 4) of a leaf", element, () -> x.edit(3, 4));
        checks.dueThrow("edit(3, 0) of a leaf", UnsupportedOperationException.class, () -> x.edit(3, 0));
        checks.due("the plan stays", Checks.plan(x), plan);
    }

    private static void right() {
        HiddenFacts x = Scenes.idle();
        x.plan(4);
        checks.due("right()", x.right(), true);
        x.edit(1, 5);
        checks.due("right(), a node that does it twice", x.right(), true);
        x.edit(2, 0);
        checks.due("right(), once is enough", x.right(), true);
        x.edit(1, 0);
        checks.due("right(), the goal does not hold at a leaf", x.right(), false);
        x.edit(2, 2);
        checks.due("right(), an action is not usable", x.right(), false);
        x.edit(2, 5);
        checks.due("right() again", x.right(), true);
        x.goal(14, 14);
        checks.due("right(), another goal", x.right(), false);
        x.goal(4, 4);
        checks.due("right(), a goal that asks for less", x.right(), true);
        x.action(3, 3, 3, -1);
        checks.due("right(), an action without its effect", x.right(), false);
        x.clause(0, 1);
        checks.due("right(), a start belief that does not come there", x.right(), true);
    }

    private static void rightNeedsANodeForEachPart() {
        HiddenFacts x = new HiddenFacts();
        x.goal(2, 2);
        x.action(0, 0, 0, -1);
        x.effect(0, 1, true, 0, 0);
        x.action(1, 0, 0, 0);
        x.effect(1, 1, true, 0, 0);
        x.plan(4);
        checks.due("the plan", Checks.plan(x), "0/1/-1 -1/-1/-1");
        x.edit(0, 1);
        checks.due("right() without a node for part 1", x.right(), false);
        x.clause(0, 1);
        checks.due("right() where part 1 is empty", x.right(), true);
        x.action(1, 0, 0, 1);
        x.effect(1, 1, true, 0, 0);
        checks.due("right() where part 0 is empty, no node for part 1", x.right(), false);
        x.action(0, 1, 1, -1);
        x.plan(4);
        checks.due("the plan with part 1 alone", Checks.plan(x), "1/-1/1 -1/-1/-1");
        checks.due("right() with part 1 alone", x.right(), true);
        x.action(1, 0, 0, -1);
        x.effect(1, 1, true, 0, 0);
        checks.due("right() without sensing all are part 0", x.right(), false);
    }

    private static void rightOfNothing() {
        HiddenFacts none = Scenes.idle();
        checks.dueThrow("right() without a plan", IllegalStateException.class, none::right);
        none.clause(0, 0);
        checks.dueThrow("right() without plan and start belief", IllegalStateException.class, none::right);
        HiddenFacts x = Scenes.idle();
        x.plan(4);
        x.edit(0, 3);
        checks.due("right()", x.right(), false);
        x.clause(0, 0);
        checks.due("right() for an empty start belief", x.right(), true);
    }
}
