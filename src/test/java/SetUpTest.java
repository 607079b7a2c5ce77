import java.util.NoSuchElementException;

/** Promises 1 to 7: a new object, clear, action, effect, clause, goal, start. */
public final class SetUpTest {
    private static final Class<IndexOutOfBoundsException> INDEX = IndexOutOfBoundsException.class;
    private static final Class<IllegalArgumentException> ARGUMENT = IllegalArgumentException.class;
    private static final Class<IllegalStateException> STATE = IllegalStateException.class;
    private static final Class<NoSuchElementException> ELEMENT = NoSuchElementException.class;
    private static final Checks checks = new Checks();

    public static void main(String[] args) {
        checks.due("NONE", HiddenFacts.NONE, -1);
        isAsNew("a new object", new HiddenFacts());
        clearForgetsAll();
        actions();
        wrongActions();
        effects();
        wrongEffects();
        clauses();
        goals();
        setUpKeepsThePlan();
        checks.end();
    }

    /** Uses the object up: what comes behind it must not rely on what was there. */
    private static void isAsNew(String name, HiddenFacts x) {
        checks.due(name + ": start()", x.start(), 65535);
        checks.due(name + ": nodes()", x.nodes(), 0);
        checks.due(name + ": made()", x.made(), 0);
        checks.dueThrow(name + ": trace(0)", INDEX, () -> x.trace(0));
        checks.dueThrow(name + ": node(0, 0)", INDEX, () -> x.node(0, 0));
        checks.dueThrow(name + ": right()", STATE, x::right);
        checks.dueThrow(name + ": execute()", STATE, x::execute);
        for (int a = 0; a < 8; a++) {
            int number = a;
            checks.dueThrow(name + ": behind(" + a + ", 0)", ELEMENT, () -> x.behind(number, 0));
        }
        checks.due(name + ": plan(0)", x.plan(0), 0);
        checks.due(name + ": the plan", Checks.plan(x), "-1/-1/-1");
        checks.dueThrow(name + ": execute() with nothing hidden", STATE, x::execute);
        for (int k = 1; k <= 6; k++) {
            checks.due(name + ": clause(1, 1)", x.clause(1, 1), k);
        }
        for (int a = 0; a < 8; a++) {
            checks.due(name + ": action(" + a + ", 0, 0, -1)", x.action(a, 0, 0, -1), false);
            checks.due(name + ": effect(" + a + ", 0, true, 0, 0)", x.effect(a, 0, true, 0, 0), 1);
        }
    }

    private static void clearForgetsAll() {
        HiddenFacts x = new HiddenFacts();
        checks.due("clear() without actions", x.clear(), 0);
        x.action(0, 0, 0, 0);
        x.effect(0, 0, true, 0, 0);
        x.effect(0, 1, true, 0, 0);
        x.action(7, 15, 3, -1);
        x.action(7, 15, 4, -1);
        x.action(3, 0, 0, -1);
        x.goal(3, 3);
        x.clause(8, 0);
        x.plan(4);
        x.hide(8);
        x.execute();
        checks.due("made() before clear()", x.made(), 1);
        checks.due("clear()", x.clear(), 3);
        isAsNew("a cleared object", x);
        checks.due("clear() of eight", x.clear(), 8);
        checks.due("clear() again", x.clear(), 0);
    }

    private static void actions() {
        HiddenFacts x = new HiddenFacts();
        checks.due("action(2, 3, 13, -1)", x.action(2, 3, 13, -1), false);
        checks.due("behind where bits of the value are out of the mask", x.behind(2, 0x2222), 0x2222);
        x.effect(2, 0, false, 0, 0);
        checks.due("behind with an effect", x.behind(2, 0x0002), 0x0001);
        checks.due("action again", x.action(2, 1, 0, 3), true);
        checks.due("behind, the condition replaced and the effect gone", x.behind(2, 0x0001), 0x0001);
        checks.dueThrow("behind in the old condition", UnsupportedOperationException.class,
                () -> x.behind(2, 0x0002));
        checks.due("effect behind the replacement", x.effect(2, 1, true, 0, 0), 1);
        checks.due("action(0, 15, 15, 3)", x.action(0, 15, 15, 3), false);
        checks.due("action(7, 0, 0, 0)", x.action(7, 0, 0, 0), false);
        checks.due("twins() tells fact 0 by action 7", x.twins(), 2);
        x.action(7, 0, 0, 1);
        checks.due("twins() tells fact 1 by action 7", x.twins(), 1);
        x.action(7, 0, 0, -1);
        checks.due("twins() without sensing", x.twins(), 1);
        x.effect(7, 3, true, 0, 0);
        checks.due("behind before the replacement", x.behind(7, 65535), 0xFF00);
        x.action(7, 0, 0, -1);
        checks.due("behind, no effect in any state", x.behind(7, 65535), 65535);
        checks.due("clear()", x.clear(), 3);
    }

    private static void wrongActions() {
        HiddenFacts x = new HiddenFacts();
        checks.dueThrow("action(-1, ..)", INDEX, () -> x.action(-1, 0, 0, 0));
        checks.dueThrow("action(8, ..)", INDEX, () -> x.action(8, 0, 0, 0));
        checks.dueThrow("action(8, 16, -1, 9)", INDEX, () -> x.action(8, 16, -1, 9));
        checks.dueThrow("action(0, -1, 0, 0)", ARGUMENT, () -> x.action(0, -1, 0, 0));
        checks.dueThrow("action(0, 16, 0, 0)", ARGUMENT, () -> x.action(0, 16, 0, 0));
        checks.dueThrow("action(0, 0, -1, 0)", ARGUMENT, () -> x.action(0, 0, -1, 0));
        checks.dueThrow("action(0, 0, 16, 0)", ARGUMENT, () -> x.action(0, 0, 16, 0));
        checks.dueThrow("action(0, 0, 0, -2)", ARGUMENT, () -> x.action(0, 0, 0, -2));
        checks.dueThrow("action(0, 0, 0, 4)", ARGUMENT, () -> x.action(0, 0, 0, 4));
        checks.due("clear() behind refused actions", x.clear(), 0);
        x.action(0, 1, 1, -1);
        x.effect(0, 2, true, 0, 0);
        checks.dueThrow("action(0, 0, 0, 4) of one that is there", ARGUMENT, () -> x.action(0, 0, 0, 4));
        checks.due("behind, as it was", x.behind(0, 2), 1 << 5);
        checks.due("effect, as it was", x.effect(0, 2, true, 0, 0), 2);
    }

    private static void effects() {
        HiddenFacts x = new HiddenFacts();
        x.action(1, 0, 0, -1);
        checks.due("the first effect", x.effect(1, 0, true, 2, 2), 1);
        checks.due("the second effect", x.effect(1, 1, false, 1, 1), 2);
        checks.due("all at once, by the state before", x.behind(1, 1 << 2 | 1 << 1), 1 << 3 | 1 << 1);
        checks.due("both", x.behind(1, 1 << 3), 1 << 1);
        checks.due("the third effect", x.effect(1, 3, true, 0, 0), 3);
        checks.due("the fourth effect", x.effect(1, 3, false, 6, 13), 4);
        checks.due("the later of two counts", x.behind(1, 1 << 4 | 1 << 12), 1 << 4);
        checks.due("the earlier where the later does not hold", x.behind(1, 1 << 6), 1 << 15);
        x.action(2, 0, 0, -1);
        x.effect(2, 3, false, 0, 0);
        x.effect(2, 3, true, 4, 4);
        checks.due("an effect of each fact", x.behind(2, 0xF0F0), 0xF000);
        checks.due("an effect makes false", x.behind(2, 1 << 9), 1 << 1);
    }

    private static void wrongEffects() {
        HiddenFacts x = new HiddenFacts();
        checks.dueThrow("effect(-1, ..)", INDEX, () -> x.effect(-1, 9, true, 99, 99));
        checks.dueThrow("effect(8, ..)", INDEX, () -> x.effect(8, 0, true, 0, 0));
        checks.dueThrow("effect of none", ELEMENT, () -> x.effect(0, 9, true, 99, 99));
        x.action(0, 0, 0, -1);
        checks.dueThrow("effect, fact -1", ARGUMENT, () -> x.effect(0, -1, true, 0, 0));
        checks.dueThrow("effect, fact 4", ARGUMENT, () -> x.effect(0, 4, true, 0, 0));
        checks.dueThrow("effect, mask -1", ARGUMENT, () -> x.effect(0, 0, true, -1, 0));
        checks.dueThrow("effect, mask 16", ARGUMENT, () -> x.effect(0, 0, true, 16, 0));
        checks.dueThrow("effect, value -1", ARGUMENT, () -> x.effect(0, 0, true, 0, -1));
        checks.dueThrow("effect, value 16", ARGUMENT, () -> x.effect(0, 0, true, 0, 16));
        for (int k = 1; k <= 4; k++) {
            checks.due("effect " + k, x.effect(0, 0, true, 0, 0), k);
        }
        checks.dueThrow("a fifth effect, wrong too", ARGUMENT, () -> x.effect(0, 4, true, 0, 0));
        checks.dueThrow("a fifth effect", STATE, () -> x.effect(0, 0, false, 0, 0));
        checks.due("behind, without the fifth", x.behind(0, 1), 2);
    }

    private static void clauses() {
        HiddenFacts x = new HiddenFacts();
        checks.due("clause(1, 0)", x.clause(1, 0), 1);
        checks.due("start(), fact 0 true", x.start(), 0xAAAA);
        checks.due("clause(0, 8)", x.clause(0, 8), 2);
        checks.due("start(), fact 3 false too", x.start(), 0x00AA);
        checks.due("clause(4, 2)", x.clause(4, 2), 3);
        checks.due("start(), fact 2 true or fact 1 false", x.start(), 0x00A2);
        checks.due("clause(15, 15)", x.clause(15, 15), 4);
        checks.due("start(), a clause that always holds", x.start(), 0x00A2);
        checks.dueThrow("clause(-1, 0)", ARGUMENT, () -> x.clause(-1, 0));
        checks.dueThrow("clause(16, 0)", ARGUMENT, () -> x.clause(16, 0));
        checks.dueThrow("clause(0, -1)", ARGUMENT, () -> x.clause(0, -1));
        checks.dueThrow("clause(0, 16)", ARGUMENT, () -> x.clause(0, 16));
        checks.due("clause(6, 0)", x.clause(6, 0), 5);
        checks.due("start(), fact 1 or 2 true", x.start(), 0x00A0);
        checks.due("clause(0, 0)", x.clause(0, 0), 6);
        checks.due("start(), a clause that never holds", x.start(), 0);
        checks.dueThrow("a seventh clause, wrong too", ARGUMENT, () -> x.clause(0, 16));
        checks.dueThrow("a seventh clause", STATE, () -> x.clause(15, 15));
    }

    private static void goals() {
        HiddenFacts x = new HiddenFacts();
        checks.due("goal(0, 15)", x.goal(0, 15), 16);
        checks.due("least where it always holds", x.least(65535, 0), 0);
        checks.due("goal(15, 5)", x.goal(15, 5), 1);
        checks.due("goal(3, 14)", x.goal(3, 14), 4);
        checks.due("least in the goal", x.least(0x4444, 0), 0);
        checks.dueThrow("least out of the goal", ELEMENT, () -> x.least(0x4445, 0));
        checks.dueThrow("goal(-1, 0)", ARGUMENT, () -> x.goal(-1, 0));
        checks.dueThrow("goal(16, 0)", ARGUMENT, () -> x.goal(16, 0));
        checks.dueThrow("goal(0, -1)", ARGUMENT, () -> x.goal(0, -1));
        checks.dueThrow("goal(0, 16)", ARGUMENT, () -> x.goal(0, 16));
        checks.due("least in the goal that stays", x.least(0x4444, 0), 0);
        checks.due("goal(8, 0)", x.goal(8, 0), 8);
    }

    private static void setUpKeepsThePlan() {
        HiddenFacts x = new HiddenFacts();
        x.action(4, 0, 0, 0);
        x.effect(4, 1, true, 0, 0);
        x.goal(2, 2);
        x.plan(1);
        String plan = Checks.plan(x);
        checks.due("the plan", plan, "4/1/1 -1/-1/-1");
        x.action(4, 0, 0, -1);
        checks.due("the plan behind action", Checks.plan(x), plan);
        x.effect(4, 2, true, 0, 0);
        checks.due("the plan behind effect", Checks.plan(x), plan);
        x.clause(1, 0);
        checks.due("the plan behind clause", Checks.plan(x), plan);
        x.goal(15, 0);
        checks.due("the plan behind goal", Checks.plan(x), plan);
    }
}
