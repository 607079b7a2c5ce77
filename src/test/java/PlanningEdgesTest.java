import java.util.NoSuchElementException;

/** Promises 8 to 10, sentence by sentence: behind, least, plan. */
public final class PlanningEdgesTest {
    private static final Class<IndexOutOfBoundsException> INDEX = IndexOutOfBoundsException.class;
    private static final Class<IllegalArgumentException> ARGUMENT = IllegalArgumentException.class;
    private static final Class<IllegalStateException> STATE = IllegalStateException.class;
    private static final Class<NoSuchElementException> ELEMENT = NoSuchElementException.class;
    private static final Class<UnsupportedOperationException> UNSUPPORTED = UnsupportedOperationException.class;
    private static final Checks checks = new Checks();

    public static void main(String[] args) {
        checks.sentence("8: The belief behind an action", PlanningEdgesTest::beliefBehind);
        checks.sentence("8: 0 of the empty one, in which each is usable", PlanningEdgesTest::behindTheEmptyOne);
        checks.sentence("8: when there is no such number", PlanningEdgesTest::behindNoSuchNumber);
        checks.sentence("8: when the action is not there", PlanningEdgesTest::behindNone);
        checks.sentence("8: when the belief is not 0 .. 65535", PlanningEdgesTest::behindNoBelief);
        checks.sentence("8: when the action is not usable in it", PlanningEdgesTest::notUsable);
        checks.sentence("9: Within how few actions (0 .. most) a belief is solved", PlanningEdgesTest::howFew);
        checks.sentence("9: when it is not 1 .. 65535", PlanningEdgesTest::leastOfNoBelief);
        checks.sentence("9: or most not 0 .. 4", PlanningEdgesTest::leastWithinWrongMost);
        checks.sentence("9: when it is not [solved]", PlanningEdgesTest::leastOfWhatIsNotSolved);
        checks.sentence("10: Makes the plan for the start belief", PlanningEdgesTest::inPlaceOfAnother);
        checks.sentence("10: within as few actions as there must be", PlanningEdgesTest::asFewAsThereMustBe);
        checks.sentence("10: at most so many (0 .. 4): within how many", PlanningEdgesTest::atMostSoMany);
        checks.sentence("10: when most is none of these", PlanningEdgesTest::planWithinWrongMost);
        checks.sentence("10: when the start belief is empty", PlanningEdgesTest::planForTheEmptyOne);
        checks.sentence("10: when it is not solved", PlanningEdgesTest::planForWhatIsNotSolved);
        checks.sentence("10: the plan before stays, when it throws", PlanningEdgesTest::planBeforeStays);
        checks.sentence("Terms: the goal holds in all of its states", PlanningEdgesTest::goalInAllStates);
        checks.sentence("Terms: or n is above 0", PlanningEdgesTest::nIsAboveZero);
        checks.sentence("Terms: each of its parts that is not empty is solved within n - 1",
                PlanningEdgesTest::eachPartIsSolved);
        checks.end();
    }

    private static void beliefBehind() {
        HiddenFacts x = new HiddenFacts();
        x.action(0, 0, 0, 2);
        x.action(7, 0, 0, -1);
        for (int f = 0; f < 4; f++) {
            x.effect(7, f, f % 2 == 0, 0, 0);
        }
        checks.due("behind(0, 1), the least", x.behind(0, 1), 1);
        checks.due("behind(0, 1 << 15), one state, the last", x.behind(0, 1 << 15), 1 << 15);
        checks.due("behind(0, 65535), all, with both parts", x.behind(0, 65535), 65535);
        checks.due("behind(7, 65535), one state of all", x.behind(7, 65535), 1 << 5);
        checks.due("behind(7, 1 << 5), nothing to change", x.behind(7, 1 << 5), 1 << 5);
        x.goal(15, 15);
        x.clause(0, 0);
        checks.due("behind(0, 65535): goal and clauses do not matter", x.behind(0, 65535), 65535);
    }

    private static void behindTheEmptyOne() {
        for (int value = 0; value < 16; value++) {
            HiddenFacts x = new HiddenFacts();
            x.action(7, 15, value, value % 5 - 1);
            x.effect(7, 0, true, 0, 0);
            checks.due("behind(7, 0) with the condition " + value, x.behind(7, 0), 0);
        }
    }

    private static void behindNoSuchNumber() {
        HiddenFacts x = Scenes.full();
        checks.due("behind(0, 1), the first that is taken", x.behind(0, 1), 1);
        checks.due("behind(7, 1), the last that is taken", x.behind(7, 1), 1);
        for (int a : Checks.outOf(0, 7)) {
            checks.refused("behind(" + a + ", 1)", INDEX, Scenes::full, y -> y.behind(a, 1));
            checks.refused("behind(" + a + ", 0)", INDEX, Scenes::full, y -> y.behind(a, 0));
        }
    }

    private static void behindNone() {
        checks.refused("behind(6, 1)", ELEMENT, Scenes::busy, y -> y.behind(6, 1));
        checks.refused("behind(7, 0)", ELEMENT, Scenes::busy, y -> y.behind(7, 0));
        HiddenFacts x = Scenes.full();
        x.clear();
        for (int a = 0; a < 8; a++) {
            int number = a;
            checks.dueThrow("behind(" + a + ", 0) behind clear", ELEMENT, () -> x.behind(number, 0));
        }
    }

    private static void behindNoBelief() {
        HiddenFacts x = Scenes.busy();
        checks.due("behind(0, 0), the first that is taken", x.behind(0, 0), 0);
        checks.due("behind(0, 65535), the last that is taken", x.behind(0, 65535), 65535);
        for (int belief : Checks.outOf(0, 65535)) {
            checks.refused("behind(0, " + belief + ")", ARGUMENT, Scenes::busy, y -> y.behind(0, belief));
            checks.refused("behind(4, " + belief + ")", ARGUMENT, Scenes::busy, y -> y.behind(4, belief));
        }
    }

    /** All states of the condition, and one more, whichever it is. */
    private static void notUsable() {
        HiddenFacts x = new HiddenFacts();
        x.action(0, 10, 2, 1);
        int condition = 0x00CC;
        checks.due("behind in all of the condition", x.behind(0, condition), condition);
        for (int s = 0; s < 16; s++) {
            int more = condition | 1 << s;
            if (more != condition) {
                checks.dueThrow("behind with " + s + " too", UNSUPPORTED, () -> x.behind(0, more));
                checks.dueThrow("behind of " + s + " alone", UNSUPPORTED, () -> x.behind(0, more & ~condition));
            }
        }
        checks.refused("behind(2, 3)", UNSUPPORTED, Scenes::busy, y -> y.behind(2, 3));
        checks.refused("behind(4, 65535)", UNSUPPORTED, Scenes::busy, y -> y.behind(4, 65535));
    }

    private static void howFew() {
        HiddenFacts x = Scenes.path(5);
        for (int most = 0; most <= 4; most++) {
            for (int left = 0; left <= 5; left++) {
                int belief = 1 << 5 - left;
                int within = most;
                String due = left <= most ? String.valueOf(left) : "NoSuchElementException";
                checks.due("least(" + belief + ", " + most + ")", Checks.answer(() -> x.least(belief, within)), due);
            }
        }
        checks.due("nodes(): no plan is made", x.nodes(), 0);
    }

    private static void leastOfNoBelief() {
        HiddenFacts x = new HiddenFacts();
        checks.due("least(1, 0), the first that is taken", x.least(1, 0), 0);
        checks.due("least(65535, 0), the last that is taken", x.least(65535, 0), 0);
        checks.refused("least(0, 4), the empty one", ARGUMENT, Scenes::busy, y -> y.least(0, 4));
        checks.refused("least(0, 0), the goal always holds", ARGUMENT, HiddenFacts::new, y -> y.least(0, 0));
        for (int belief : Checks.outOf(1, 65535)) {
            checks.refused("least(" + belief + ", 4)", ARGUMENT, Scenes::busy, y -> y.least(belief, 4));
        }
    }

    private static void leastWithinWrongMost() {
        HiddenFacts x = Scenes.path(5);
        checks.due("least(32, 0), the first that is taken", x.least(32, 0), 0);
        checks.due("least(2, 4), the last that is taken", x.least(2, 4), 4);
        for (int most : Checks.outOf(0, 4)) {
            checks.refused("least(3, " + most + ")", ARGUMENT, Scenes::busy, y -> y.least(3, most));
            checks.refused("least(1, " + most + "), the goal holds", ARGUMENT, HiddenFacts::new, y -> y.least(1, most));
        }
    }

    private static void leastOfWhatIsNotSolved() {
        HiddenFacts x = Scenes.path(5);
        checks.dueThrow("least(1, 4): it would take five", ELEMENT, () -> x.least(1, 4));
        checks.dueThrow("least(3, 4): of two states", ELEMENT, () -> x.least(3, 4));
        checks.dueThrow("least(64, 4): from where no action leads on", ELEMENT, () -> x.least(64, 4));
        checks.refused("least(3, 2)", ELEMENT, Scenes::busy, y -> y.least(3, 2));
        HiddenFacts none = new HiddenFacts();
        none.goal(1, 1);
        checks.dueThrow("least(1, 4) without actions", ELEMENT, () -> none.least(1, 4));
    }

    /** Nothing of a smaller or a larger plan before is left: from each to each on one object. */
    private static void inPlaceOfAnother() {
        HiddenFacts x = Scenes.full();
        String leaf = "-1/-1/-1";
        String small = "0/1/1 -1/-1/-1";
        x.goal(0, 0);
        x.plan(4);
        checks.due("a leaf behind the largest plan", Checks.plan(x), leaf);
        x.goal(8, 8);
        x.plan(4);
        checks.due("the largest plan behind a leaf", Checks.plan(x), Scenes.FULL_PLAN);
        x.edit(0, 7);
        x.plan(4);
        checks.due("the plan behind the same one changed by hand", Checks.plan(x), Scenes.FULL_PLAN);
        x.action(0, 0, 0, 0);
        x.effect(0, 3, true, 0, 0);
        x.plan(4);
        checks.due("a small plan behind the largest", Checks.plan(x), small);
        x.action(0, 0, 0, 0);
        x.plan(4);
        checks.due("the largest plan behind a small one", Checks.plan(x), Scenes.FULL_PLAN);
        x.action(0, 0, 0, 0);
        x.effect(0, 3, true, 0, 0);
        x.plan(4);
        x.goal(0, 0);
        x.plan(4);
        checks.due("a leaf behind a small plan", Checks.plan(x), leaf);
        x.goal(8, 8);
        x.plan(4);
        checks.due("a small plan behind a leaf", Checks.plan(x), small);
    }

    private static void asFewAsThereMustBe() {
        for (int left = 0; left <= 4; left++) {
            HiddenFacts x = Scenes.path(4);
            Scenes.only(x, 4 - left);
            for (int most = left; most <= 4; most++) {
                checks.due("plan(" + most + ") from " + (4 - left), x.plan(most), left);
                checks.due("nodes()", x.nodes(), left + 1);
            }
        }
        HiddenFacts idle = Scenes.busy();
        idle.goal(0, 0);
        checks.due("plan(4) where the goal holds", idle.plan(4), 0);
        checks.due("its leaf", Checks.plan(idle), "-1/-1/-1");
    }

    private static void atMostSoMany() {
        for (int left = 0; left <= 5; left++) {
            for (int most = 0; most <= 4; most++) {
                HiddenFacts x = Scenes.path(5);
                Scenes.only(x, 5 - left);
                int within = most;
                String due = left <= most ? String.valueOf(left) : "NoSuchElementException";
                checks.due("plan(" + most + ") from " + (5 - left), Checks.answer(() -> x.plan(within)), due);
                checks.due("nodes()", x.nodes(), left <= most ? left + 1 : 0);
            }
        }
    }

    private static void planWithinWrongMost() {
        HiddenFacts x = Scenes.busy();
        checks.due("plan(4), the last that is taken", x.plan(4), 3);
        checks.due("plan(0), the first that is taken", new HiddenFacts().plan(0), 0);
        for (int most : Checks.outOf(0, 4)) {
            checks.refused("plan(" + most + ")", ARGUMENT, Scenes::busy, y -> y.plan(most));
            checks.refused("plan(" + most + ") at first", ARGUMENT, HiddenFacts::new, y -> y.plan(most));
        }
    }

    private static HiddenFacts busyWithNoState() {
        HiddenFacts x = Scenes.busy();
        x.clause(1, 0);
        x.clause(0, 1);
        return x;
    }

    private static void planForTheEmptyOne() {
        for (int most = 0; most <= 4; most++) {
            int within = most;
            checks.refused("plan(" + most + ")", STATE, PlanningEdgesTest::busyWithNoState, y -> y.plan(within));
        }
        HiddenFacts x = new HiddenFacts();
        x.clause(0, 0);
        checks.dueThrow("plan(0), the goal always holds", STATE, () -> x.plan(0));
        checks.due("nodes()", x.nodes(), 0);
        HiddenFacts one = Scenes.busy();
        one.clause(0, 1);
        checks.due("plan(4) of one state", one.plan(4), 1);
    }

    private static void planForWhatIsNotSolved() {
        for (int most = 0; most <= 2; most++) {
            int within = most;
            checks.refused("plan(" + most + ")", ELEMENT, Scenes::busy, y -> y.plan(within));
        }
        for (int most = 0; most <= 3; most++) {
            int within = most;
            checks.refused("plan(" + most + ")", ELEMENT, Scenes::full, y -> y.plan(within));
        }
        HiddenFacts x = new HiddenFacts();
        x.goal(15, 15);
        checks.dueThrow("plan(4) without actions", ELEMENT, () -> x.plan(4));
        checks.due("nodes()", x.nodes(), 0);
    }

    private static void planBeforeStays() {
        HiddenFacts x = Scenes.busy();
        x.edit(1, 4);
        String edited = Scenes.BUSY_PLAN.replace(" 0/2/-1", " 4/2/-1");
        checks.dueThrow("plan(5)", ARGUMENT, () -> x.plan(5));
        checks.due("the plan behind it, as it was changed", Checks.plan(x), edited);
        checks.dueThrow("plan(2)", ELEMENT, () -> x.plan(2));
        checks.due("the plan behind it", Checks.plan(x), edited);
        x.clause(0, 0);
        checks.dueThrow("plan(4)", STATE, () -> x.plan(4));
        checks.due("the plan behind it, for an empty start belief", Checks.plan(x), edited);
        HiddenFacts leaf = new HiddenFacts();
        leaf.plan(0);
        leaf.goal(15, 15);
        checks.dueThrow("plan(4) behind a leaf", ELEMENT, () -> leaf.plan(4));
        checks.due("the leaf", Checks.plan(leaf), "-1/-1/-1");
    }

    private static void goalInAllStates() {
        HiddenFacts x = new HiddenFacts();
        x.goal(8, 8);
        checks.due("least(0xFF00, 0)", x.least(0xFF00, 0), 0);
        for (int s = 0; s < 8; s++) {
            int belief = 0xFF00 | 1 << s;
            checks.dueThrow("least with " + s + " too", ELEMENT, () -> x.least(belief, 0));
        }
        checks.dueThrow("least(0x00FF, 4)", ELEMENT, () -> x.least(0x00FF, 4));
    }

    private static void nIsAboveZero() {
        HiddenFacts x = Scenes.path(1);
        checks.dueThrow("least(1, 0)", ELEMENT, () -> x.least(1, 0));
        checks.due("least(1, 1)", x.least(1, 1), 1);
        checks.dueThrow("plan(0)", ELEMENT, () -> x.plan(0));
        Scenes.only(x, 0);
        checks.dueThrow("plan(0) of state 0", ELEMENT, () -> x.plan(0));
        checks.due("plan(1) of state 0", x.plan(1), 1);
    }

    /** Fact 0 is sensed; action 1 solves where it is false, in one action, action 2 and 3 where it is true, in two. */
    private static void eachPartIsSolved() {
        HiddenFacts x = new HiddenFacts();
        x.goal(6, 6);
        x.action(0, 0, 0, 0);
        x.action(1, 1, 0, -1);
        x.effect(1, 1, true, 0, 0);
        x.effect(1, 2, true, 0, 0);
        x.action(2, 1, 1, -1);
        x.effect(2, 1, true, 0, 0);
        checks.dueThrow("least(3, 4): part 1 is not solved", ELEMENT, () -> x.least(3, 4));
        checks.due("least(1, 4): part 1 is empty", x.least(1, 4), 1);
        x.action(3, 3, 3, -1);
        x.effect(3, 2, true, 0, 0);
        checks.due("least(2, 4): of part 1", x.least(2, 4), 2);
        checks.dueThrow("least(3, 2): part 1 takes more than n - 1", ELEMENT, () -> x.least(3, 2));
        checks.due("least(3, 3)", x.least(3, 3), 3);
        x.action(1, 1, 0, -1);
        checks.dueThrow("least(3, 4): part 0 is not solved", ELEMENT, () -> x.least(3, 4));
        checks.due("least(2, 4): part 0 is empty", x.least(2, 4), 2);
        HiddenFacts y = new HiddenFacts();
        y.goal(1, 1);
        y.action(7, 0, 0, 3);
        y.effect(7, 0, true, 0, 0);
        checks.due("least(1, 1): the action's part 1 is empty", y.least(1, 1), 1);
        checks.due("least(256, 1): the action's part 0 is empty", y.least(256, 1), 1);
        checks.due("least(257, 1): neither is", y.least(257, 1), 1);
    }
}
