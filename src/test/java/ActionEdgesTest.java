import java.util.NoSuchElementException;
import java.util.function.Supplier;

/** Promises 3 and 4, sentence by sentence: action, effect. */
public final class ActionEdgesTest {
    private static final Class<IndexOutOfBoundsException> INDEX = IndexOutOfBoundsException.class;
    private static final Class<IllegalArgumentException> ARGUMENT = IllegalArgumentException.class;
    private static final Class<IllegalStateException> STATE = IllegalStateException.class;
    private static final Class<NoSuchElementException> ELEMENT = NoSuchElementException.class;
    private static final Checks checks = new Checks();

    public static void main(String[] args) {
        checks.sentence("3: An action is there from now on", ActionEdgesTest::isThere);
        checks.sentence("3: with a condition", ActionEdgesTest::hasACondition);
        checks.sentence("3: and without effects", ActionEdgesTest::withoutEffects);
        checks.sentence("3: a plan that there is stays, as with effects, clauses and goals",
                ActionEdgesTest::planStays);
        checks.sentence("3: sense is its fact, or NONE", ActionEdgesTest::senses);
        checks.sentence("3: whether it was there before", ActionEdgesTest::wasThereBefore);
        checks.sentence("3: One that was there is replaced", ActionEdgesTest::isReplaced);
        checks.sentence("3: when there is no such number", ActionEdgesTest::noSuchActionToMake);
        checks.sentence("3: when mask or value is not 0 .. 15", ActionEdgesTest::wrongCondition);
        checks.sentence("3: or sense not NONE .. 3", ActionEdgesTest::wrongSense);
        checks.sentence("4: One effect more of an action: how many it has", ActionEdgesTest::howManyEffects);
        checks.sentence("4: when there is no such number", ActionEdgesTest::noSuchActionToChange);
        checks.sentence("4: when the action is not there", ActionEdgesTest::effectOfNone);
        checks.sentence("4: when mask or value is not 0 .. 15", ActionEdgesTest::wrongDemand);
        checks.sentence("4: or the fact not 0 .. 3", ActionEdgesTest::wrongFact);
        checks.sentence("4: when it has four", ActionEdgesTest::hasFour);
        checks.end();
    }

    private static void isThere() {
        for (int a = 0; a < 8; a++) {
            HiddenFacts x = new HiddenFacts();
            x.action(a, 0, 0, -1);
            for (int b = 0; b < 8; b++) {
                int number = b;
                if (b == a) {
                    checks.due("behind(" + a + ", 1)", x.behind(a, 1), 1);
                } else {
                    checks.dueThrow("behind(" + b + ", 1)", ELEMENT, () -> x.behind(number, 1));
                }
            }
            checks.due("clear()", x.clear(), 1);
        }
    }

    /** In each state: by the numbers of the demand alone, and for every mask and value. */
    private static void hasACondition() {
        for (int mask = 0; mask < 16; mask++) {
            for (int value = 0; value < 16; value++) {
                HiddenFacts x = new HiddenFacts();
                x.action(7, mask, value, -1);
                for (int s = 0; s < 16; s++) {
                    int belief = 1 << s;
                    boolean holds = ((s ^ value) & mask) == 0;
                    String due = holds ? String.valueOf(belief) : "UnsupportedOperationException";
                    checks.due("behind in " + s + " with " + mask + " and " + value,
                            Checks.answer(() -> x.behind(7, belief)), due);
                }
            }
        }
    }

    private static void withoutEffects() {
        HiddenFacts x = Scenes.full();
        for (int a = 0; a < 8; a++) {
            x.action(a, 0, 0, a % 5 - 1);
            checks.due("behind(" + a + ", 65535)", x.behind(a, 65535), 65535);
            for (int s = 0; s < 16; s++) {
                checks.due("behind(" + a + ", " + (1 << s) + ")", x.behind(a, 1 << s), 1 << s);
            }
            checks.due("its first effect", x.effect(a, 0, true, 0, 0), 1);
        }
    }

    private static void planStays() {
        HiddenFacts x = Scenes.busy();
        checks.due("the plan", Checks.plan(x), Scenes.BUSY_PLAN);
        x.action(7, 0, 0, -1);
        checks.due("the plan behind a new action", Checks.plan(x), Scenes.BUSY_PLAN);
        x.action(1, 15, 15, 3);
        checks.due("the plan behind an action of it", Checks.plan(x), Scenes.BUSY_PLAN);
        x.effect(2, 1, false, 0, 0);
        checks.due("the plan behind an effect", Checks.plan(x), Scenes.BUSY_PLAN);
        x.clause(1, 0);
        checks.due("the plan behind a clause", Checks.plan(x), Scenes.BUSY_PLAN);
        x.clause(0, 0);
        checks.due("the plan for what is empty now", Checks.plan(x), Scenes.BUSY_PLAN);
        x.goal(15, 0);
        checks.due("the plan behind a goal", Checks.plan(x), Scenes.BUSY_PLAN);
        checks.due("what was made", Checks.trace(x), "1 3 7");
    }

    /** By each fact: it tells the states 0 and 1 << fact apart, and no others of that kind. */
    private static void senses() {
        for (int sense = -1; sense < 4; sense++) {
            for (int f = 0; f < 4; f++) {
                HiddenFacts x = new HiddenFacts();
                x.action(0, 0, 0, sense);
                Scenes.onlyTwo(x, 0, 1 << f);
                String due = sense == f ? "NoSuchElementException" : String.valueOf(1 << f);
                checks.due("twins() of fact " + f + ", sensing " + sense, Checks.answer(x::twins), due);
            }
        }
        HiddenFacts none = new HiddenFacts();
        none.action(0, 0, 0, HiddenFacts.NONE);
        checks.due("twins() with NONE", none.twins(), 1);
    }

    private static void wasThereBefore() {
        HiddenFacts x = new HiddenFacts();
        for (int a = 0; a < 8; a++) {
            checks.due("action(" + a + ", ..) at first", x.action(a, 0, 0, -1), false);
        }
        for (int a = 7; a >= 0; a--) {
            checks.due("action(" + a + ", ..) again", x.action(a, 0, 0, -1), true);
        }
        x.clear();
        checks.due("action(0, ..) behind clear", x.action(0, 0, 0, -1), false);
        checks.dueThrow("action(1, 16, ..)", ARGUMENT, () -> x.action(1, 16, 0, -1));
        checks.due("action(1, ..) behind a refused one", x.action(1, 0, 0, -1), false);
        checks.dueThrow("action(1, 16, ..)", ARGUMENT, () -> x.action(1, 16, 0, -1));
        checks.due("action(1, ..) that was not taken away", x.action(1, 0, 0, -1), true);
    }

    private static void isReplaced() {
        HiddenFacts x = new HiddenFacts();
        Scenes.onlyTwo(x, 0, 1);
        x.action(7, 8, 0, 0);
        x.effect(7, 3, true, 0, 0);
        checks.dueThrow("twins() before", ELEMENT, x::twins);
        checks.due("behind(7, 3) before", x.behind(7, 3), 3 << 8);
        checks.due("action(7, 1, 1, 1)", x.action(7, 1, 1, 1), true);
        checks.due("behind(7, 1 << 9): the condition and the effects", x.behind(7, 1 << 9), 1 << 9);
        checks.dueThrow("behind(7, 1)", UnsupportedOperationException.class, () -> x.behind(7, 1));
        x.action(7, 0, 0, 1);
        checks.due("twins(): the sensed fact", x.twins(), 1);
        x.action(7, 0, 0, 0);
        checks.dueThrow("twins(), replaced once more", ELEMENT, x::twins);
        x.action(7, 0, 0, -1);
        checks.due("twins(), without sensing now", x.twins(), 1);
    }

    private static void noSuchActionToMake() {
        HiddenFacts x = new HiddenFacts();
        checks.due("action(0, ..), the first that is taken", x.action(0, 0, 0, 0), false);
        checks.due("action(7, ..), the last that is taken", x.action(7, 0, 0, 0), false);
        for (int a : Checks.outOf(0, 7)) {
            checks.refused("action(" + a + ", ..)", INDEX, Scenes::busy, y -> y.action(a, 0, 0, 0));
        }
        checks.refused("action(8, ..) of a new object", INDEX, HiddenFacts::new, y -> y.action(8, 0, 0, 0));
    }

    private static void wrongCondition() {
        HiddenFacts x = new HiddenFacts();
        for (int bits = 0; bits < 16; bits++) {
            checks.due("action(0, " + bits + ", 0, 0)", x.action(0, bits, 0, 0), bits > 0);
            checks.due("action(1, 0, " + bits + ", 0)", x.action(1, 0, bits, 0), bits > 0);
        }
        for (int bits : Checks.outOf(0, 15)) {
            checks.refused("action(4, " + bits + ", 0, 0)", ARGUMENT, Scenes::busy, y -> y.action(4, bits, 0, 0));
            checks.refused("action(4, 0, " + bits + ", 0)", ARGUMENT, Scenes::busy, y -> y.action(4, 0, bits, 0));
            checks.refused("action(7, " + bits + ", 15, 3)", ARGUMENT, Scenes::busy, y -> y.action(7, bits, 15, 3));
            checks.refused("action(7, 15, " + bits + ", -1)", ARGUMENT, Scenes::busy, y -> y.action(7, 15, bits, -1));
        }
    }

    private static void wrongSense() {
        HiddenFacts x = new HiddenFacts();
        for (int sense = -1; sense < 4; sense++) {
            checks.due("action(0, 0, 0, " + sense + ")", x.action(0, 0, 0, sense), sense > -1);
        }
        Supplier<HiddenFacts> sensing = () -> {
            HiddenFacts y = new HiddenFacts();
            y.action(2, 0, 0, 3);
            Scenes.onlyTwo(y, 4, 12);
            return y;
        };
        for (int sense : Checks.outOf(-1, 3)) {
            String text = "action(2, 0, 0, " + sense + ")";
            checks.refused(text, ARGUMENT, Scenes::busy, y -> y.action(2, 0, 0, sense));
            HiddenFacts y = sensing.get();
            checks.dueThrow(text, ARGUMENT, () -> y.action(2, 0, 0, sense));
            checks.dueThrow("twins(): the sensed fact stays", ELEMENT, y::twins);
            checks.refused("action(7, 0, 0, " + sense + ")", ARGUMENT, Scenes::busy, z -> z.action(7, 0, 0, sense));
        }
    }

    private static void howManyEffects() {
        HiddenFacts x = new HiddenFacts();
        x.action(0, 0, 0, -1);
        x.action(7, 0, 0, -1);
        checks.due("the first of action 0", x.effect(0, 0, true, 0, 0), 1);
        checks.due("the first of action 7", x.effect(7, 3, false, 15, 15), 1);
        checks.due("the second of action 7, the same once more", x.effect(7, 3, false, 15, 15), 2);
        checks.due("the second of action 0", x.effect(0, 1, true, 0, 0), 2);
        checks.due("the third of action 7", x.effect(7, 0, false, 0, 0), 3);
        checks.due("the fourth of action 7", x.effect(7, 0, false, 0, 0), 4);
        checks.due("the third of action 0", x.effect(0, 1, true, 0, 0), 3);
        checks.due("behind action 0", x.behind(0, 1), 1 << 3);
        checks.due("behind action 7", x.behind(7, 1 << 15 | 1 << 14), 1 << 6 | 1 << 14);
    }

    private static void noSuchActionToChange() {
        HiddenFacts x = Scenes.busy();
        x.action(7, 0, 0, 0);
        checks.due("effect(0, ..), the first that is taken", x.effect(0, 0, true, 0, 0), 1);
        checks.due("effect(7, ..), the last that is taken", x.effect(7, 0, true, 0, 0), 1);
        for (int a : Checks.outOf(0, 7)) {
            checks.refused("effect(" + a + ", ..)", INDEX, Scenes::busy, y -> y.effect(a, 0, true, 0, 0));
        }
    }

    private static void effectOfNone() {
        for (int a = 6; a < 8; a++) {
            int number = a;
            checks.refused("effect(" + a + ", ..)", ELEMENT, Scenes::busy, y -> y.effect(number, 0, true, 0, 0));
        }
        HiddenFacts x = Scenes.full();
        x.clear();
        for (int a = 0; a < 8; a++) {
            int number = a;
            checks.dueThrow("effect(" + a + ", ..) behind clear", ELEMENT, () -> x.effect(number, 0, true, 0, 0));
        }
    }

    private static void wrongDemand() {
        for (int bits = 0; bits < 16; bits++) {
            HiddenFacts x = new HiddenFacts();
            x.action(5, 0, 0, -1);
            checks.due("effect(5, 0, true, " + bits + ", 0)", x.effect(5, 0, true, bits, 0), 1);
            checks.due("effect(5, 0, true, 0, " + bits + ")", x.effect(5, 0, true, 0, bits), 2);
        }
        for (int bits : Checks.outOf(0, 15)) {
            checks.refused("effect(4, 0, true, " + bits + ", 0)", ARGUMENT, Scenes::busy,
                    y -> y.effect(4, 0, true, bits, 0));
            checks.refused("effect(4, 3, false, 15, " + bits + ")", ARGUMENT, Scenes::busy,
                    y -> y.effect(4, 3, false, 15, bits));
        }
    }

    private static void wrongFact() {
        for (int f = 0; f < 4; f++) {
            HiddenFacts x = new HiddenFacts();
            x.action(5, 0, 0, -1);
            checks.due("effect(5, " + f + ", true, 0, 0)", x.effect(5, f, true, 0, 0), 1);
            checks.due("behind(5, 1), made true", x.behind(5, 1), 1 << (1 << f));
            checks.due("effect(5, " + f + ", false, 0, 0)", x.effect(5, f, false, 0, 0), 2);
            checks.due("behind(5, 1 << 15), made false", x.behind(5, 1 << 15), 1 << (15 - (1 << f)));
        }
        for (int f : Checks.outOf(0, 3)) {
            checks.refused("effect(4, " + f + ", true, 0, 0)", ARGUMENT, Scenes::busy,
                    y -> y.effect(4, f, true, 0, 0));
            checks.refused("effect(4, " + f + ", false, 0, 0)", ARGUMENT, Scenes::busy,
                    y -> y.effect(4, f, false, 0, 0));
        }
    }

    private static void hasFour() {
        for (int a = 0; a < 8; a++) {
            int number = a;
            checks.refused("a fifth effect of action " + a, STATE, Scenes::full,
                    y -> y.effect(number, 0, true, 0, 0));
        }
        HiddenFacts x = Scenes.busy();
        checks.due("the fourth of action 4", x.effect(4, 2, true, 0, 0), 4);
        checks.dueThrow("the fifth of action 4", STATE, () -> x.effect(4, 2, false, 0, 0));
        checks.dueThrow("the fifth again", STATE, () -> x.effect(4, 2, false, 0, 0));
        checks.due("behind(4, 1 << 8), the four alone", x.behind(4, 1 << 8), 1 << 13);
        checks.due("the third of action 5: others have room", x.effect(5, 3, true, 0, 0), 3);
        x.action(4, 0, 0, -1);
        checks.due("the first of action 4, replaced", x.effect(4, 2, false, 0, 0), 1);
    }
}
