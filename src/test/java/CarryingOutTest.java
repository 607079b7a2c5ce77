/** Promises 15 to 18: hide, execute, made, trace. */
public final class CarryingOutTest {
    private static final Class<IndexOutOfBoundsException> INDEX = IndexOutOfBoundsException.class;
    private static final Class<IllegalArgumentException> ARGUMENT = IllegalArgumentException.class;
    private static final Class<IllegalStateException> STATE = IllegalStateException.class;
    private static final Checks checks = new Checks();

    public static void main(String[] args) {
        hide();
        carriesOut();
        endsBeforeACondition();
        endsWithoutANode();
        endsOutOfTheGoal();
        fromALeaf();
        needsPlanAndState();
        theLatestStays();
        checks.end();
    }

    /** Toggles fact 0 and senses it: fact 0 is true behind one action or two. */
    private static HiddenFacts toggle() {
        HiddenFacts x = new HiddenFacts();
        x.action(0, 0, 0, 0);
        x.effect(0, 0, true, 1, 0);
        x.effect(0, 0, false, 1, 1);
        x.goal(1, 1);
        x.plan(4);
        return x;
    }

    private static String trace(HiddenFacts x) {
        checks.dueThrow("trace(made())", INDEX, () -> x.trace(x.made()));
        checks.dueThrow("trace(-1)", INDEX, () -> x.trace(-1));
        return Checks.trace(x);
    }

    private static void hide() {
        HiddenFacts x = new HiddenFacts();
        checks.due("hide(0)", x.hide(0), true);
        checks.due("hide(15)", x.hide(15), true);
        x.clause(1, 0);
        checks.due("hide(14) out of the start belief", x.hide(14), false);
        checks.due("hide(15) in it", x.hide(15), true);
        checks.due("hide(0) out of it", x.hide(0), false);
        checks.dueThrow("hide(-1)", ARGUMENT, () -> x.hide(-1));
        checks.dueThrow("hide(16)", ARGUMENT, () -> x.hide(16));
        x.plan(0);
        x.goal(15, 0);
        checks.due("execute() from the state that stayed hidden", x.execute(), true);
    }

    private static void carriesOut() {
        HiddenFacts x = toggle();
        x.hide(6);
        checks.due("execute() from 6", x.execute(), true);
        checks.due("made() from 6", x.made(), 1);
        checks.due("trace from 6", trace(x), "7");
        x.hide(9);
        checks.due("execute() from 9", x.execute(), true);
        checks.due("made() from 9", x.made(), 2);
        checks.due("trace from 9", trace(x), "8 9");
        checks.due("execute() again: the hidden state stays", x.execute(), true);
        checks.due("trace again", trace(x), "8 9");
        x.clause(0, 8);
        checks.due("execute() out of the start belief", x.execute(), true);
    }

    private static HiddenFacts twoSteps() {
        HiddenFacts x = new HiddenFacts();
        x.action(0, 0, 0, -1);
        x.effect(0, 0, true, 0, 0);
        x.action(1, 1, 1, -1);
        x.effect(1, 1, true, 0, 0);
        x.goal(3, 3);
        x.clause(0, 1);
        x.plan(4);
        x.hide(4);
        return x;
    }

    private static void endsBeforeACondition() {
        HiddenFacts x = twoSteps();
        checks.due("execute()", x.execute(), true);
        checks.due("trace", trace(x), "5 7");
        x.action(1, 15, 13, -1);
        checks.due("execute() where the second may not be used", x.execute(), false);
        checks.due("trace of the first", trace(x), "5");
        x.hide(12);
        checks.due("execute() where it may, without its effect", x.execute(), false);
        checks.due("trace of both", trace(x), "13 13");
        x.action(0, 1, 1, -1);
        checks.due("execute() where the first may not be used", x.execute(), false);
        checks.due("made() of none", x.made(), 0);
        checks.due("trace of none", trace(x), "");
    }

    private static void endsWithoutANode() {
        HiddenFacts x = twoSteps();
        x.action(0, 0, 0, 2);
        x.effect(0, 0, true, 0, 0);
        checks.due("execute() with no node for true", x.execute(), false);
        checks.due("the action before it was made", trace(x), "5");
        x.hide(8);
        checks.due("execute() with a node for false", x.execute(), true);
        checks.due("trace", trace(x), "9 11");
        x.action(1, 1, 1, 1);
        x.effect(1, 1, true, 0, 0);
        checks.due("execute() with no node for the last, in the goal", x.execute(), false);
        checks.due("trace", trace(x), "9 11");
    }

    private static void endsOutOfTheGoal() {
        HiddenFacts x = twoSteps();
        x.goal(8, 8);
        checks.due("execute() to a leaf out of the goal", x.execute(), false);
        checks.due("trace", trace(x), "5 7");
        x.hide(12);
        checks.due("execute() to a leaf in the goal", x.execute(), true);
        x.edit(1, 0);
        x.goal(15, 13);
        checks.due("execute() by an edited node", x.execute(), true);
        checks.due("trace", trace(x), "13 13");
    }

    private static void fromALeaf() {
        HiddenFacts x = new HiddenFacts();
        x.plan(4);
        x.hide(2);
        checks.due("execute() of a leaf", x.execute(), true);
        checks.due("made()", x.made(), 0);
        x.goal(1, 1);
        checks.due("execute() of a leaf out of the goal", x.execute(), false);
    }

    private static void needsPlanAndState() {
        HiddenFacts x = new HiddenFacts();
        checks.dueThrow("execute() without both", STATE, x::execute);
        x.hide(0);
        checks.dueThrow("execute() without a plan", STATE, x::execute);
        HiddenFacts y = toggle();
        checks.dueThrow("execute() without a state", STATE, y::execute);
        checks.due("made()", y.made(), 0);
        checks.dueThrow("trace(0)", INDEX, () -> y.trace(0));
    }

    private static void theLatestStays() {
        HiddenFacts x = toggle();
        x.hide(3);
        x.execute();
        x.hide(2);
        checks.due("made() behind hide", x.made(), 2);
        x.plan(4);
        checks.due("made() behind plan", x.made(), 2);
        x.action(0, 0, 0, 0);
        checks.dueThrow("plan(4)", java.util.NoSuchElementException.class, () -> x.plan(4));
        checks.due("trace behind it", trace(x), "2 3");
        checks.due("execute() of what does nothing", x.execute(), false);
        checks.due("trace", trace(x), "2 2");
        x.clear();
        checks.due("made() behind clear", x.made(), 0);
        checks.dueThrow("trace(0) behind clear", INDEX, () -> x.trace(0));
        x.plan(0);
        checks.dueThrow("execute() behind clear", STATE, x::execute);
    }
}
