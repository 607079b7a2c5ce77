/** Promises 5 to 7, sentence by sentence: clause, goal, start. */
public final class ClauseGoalEdgesTest {
    private static final Class<IllegalArgumentException> ARGUMENT = IllegalArgumentException.class;
    private static final Class<IllegalStateException> STATE = IllegalStateException.class;
    private static final Checks checks = new Checks();

    public static void main(String[] args) {
        checks.sentence("5: One clause more: how many there are", ClauseGoalEdgesTest::howManyClauses);
        checks.sentence("5: when one of the sets is not 0 .. 15", ClauseGoalEdgesTest::wrongSets);
        checks.sentence("5: when there are six", ClauseGoalEdgesTest::thereAreSix);
        checks.sentence("6: Sets the goal", ClauseGoalEdgesTest::setsTheGoal);
        checks.sentence("6: bits of the value out of the mask do not matter", ClauseGoalEdgesTest::bitsOutOfTheMask);
        checks.sentence("6: in how many of the 16 states it holds", ClauseGoalEdgesTest::inHowManyStates);
        checks.sentence("6: when mask or value is not 0 .. 15", ClauseGoalEdgesTest::wrongGoal);
        checks.sentence("7: The start belief", ClauseGoalEdgesTest::startBelief);
        checks.sentence("Terms: all states without clauses", ClauseGoalEdgesTest::withoutClauses);
        checks.sentence("Terms: all states in which each CLAUSE holds", ClauseGoalEdgesTest::eachClauseHolds);
        checks.sentence("Terms: when one of the first set is true, or one of the second false",
                ClauseGoalEdgesTest::aClauseHolds);
        checks.end();
    }

    private static void howManyClauses() {
        HiddenFacts x = new HiddenFacts();
        for (int c = 1; c <= 6; c++) {
            checks.due("clause " + c + ", the same each time", x.clause(1, 0), c);
        }
        checks.due("start()", x.start(), 0xAAAA);
        x.clear();
        checks.due("the first behind clear", x.clause(15, 0), 1);
        checks.due("the second, that never holds", x.clause(0, 0), 2);
        checks.due("the third, with an empty start belief", x.clause(15, 15), 3);
    }

    private static void wrongSets() {
        for (int set = 0; set < 16; set++) {
            HiddenFacts x = new HiddenFacts();
            checks.due("clause(" + set + ", 0)", x.clause(set, 0), 1);
            checks.due("clause(0, " + set + ")", x.clause(0, set), 2);
        }
        for (int set : Checks.outOf(0, 15)) {
            checks.refused("clause(" + set + ", 0)", ARGUMENT, Scenes::busy, y -> y.clause(set, 0));
            checks.refused("clause(0, " + set + ")", ARGUMENT, Scenes::busy, y -> y.clause(0, set));
            checks.refused("clause(" + set + ", 15)", ARGUMENT, HiddenFacts::new, y -> y.clause(set, 15));
            checks.refused("clause(15, " + set + ")", ARGUMENT, HiddenFacts::new, y -> y.clause(15, set));
        }
    }

    private static void thereAreSix() {
        HiddenFacts x = new HiddenFacts();
        for (int c = 1; c <= 5; c++) {
            x.clause(15, 15);
        }
        checks.due("the sixth", x.clause(0, 1), 6);
        checks.dueThrow("the seventh", STATE, () -> x.clause(0, 2));
        checks.dueThrow("the seventh again", STATE, () -> x.clause(0, 0));
        checks.due("start(), the six alone", x.start(), 0x5555);
        checks.refused("clause(0, 0)", STATE, Scenes::full, y -> y.clause(0, 0));
        checks.refused("clause(15, 15)", STATE, Scenes::full, y -> y.clause(15, 15));
    }

    /** By the states in which nothing is left to do. */
    private static int goalStates(HiddenFacts x) {
        int states = 0;
        for (int s = 0; s < 16; s++) {
            int belief = 1 << s;
            states |= Checks.answer(() -> x.least(belief, 0)).equals("0") ? belief : 0;
        }
        return states;
    }

    private static void setsTheGoal() {
        HiddenFacts x = new HiddenFacts();
        checks.due("the goal at first", goalStates(x), 65535);
        x.goal(15, 0);
        checks.due("goal(15, 0)", goalStates(x), 1);
        x.goal(15, 15);
        checks.due("goal(15, 15), in place of the other", goalStates(x), 1 << 15);
        x.goal(8, 8);
        checks.due("goal(8, 8)", goalStates(x), 0xFF00);
        x.goal(1, 0);
        checks.due("goal(1, 0)", goalStates(x), 0x5555);
        x.goal(0, 0);
        checks.due("goal(0, 0), which always holds", goalStates(x), 65535);
    }

    private static void bitsOutOfTheMask() {
        HiddenFacts x = new HiddenFacts();
        for (int value = 0; value < 16; value++) {
            checks.due("goal(0, " + value + ")", x.goal(0, value), 16);
            checks.due("least(65535, 0)", x.least(65535, 0), 0);
        }
        for (int mask = 0; mask < 16; mask++) {
            HiddenFacts y = new HiddenFacts();
            y.goal(mask, 5 & mask);
            int inside = goalStates(y);
            y.goal(mask, 5 | 15 & ~mask);
            checks.due("the goal of mask " + mask + " and all bits out of it", goalStates(y), inside);
        }
    }

    private static void inHowManyStates() {
        HiddenFacts x = new HiddenFacts();
        for (int mask = 0; mask < 16; mask++) {
            for (int value = 0; value < 16; value++) {
                checks.due("goal(" + mask + ", " + value + ")", x.goal(mask, value), 16 >> Integer.bitCount(mask));
            }
        }
        x.clause(0, 0);
        checks.due("goal(8, 0): of the 16, not of the start belief", x.goal(8, 0), 8);
    }

    private static void wrongGoal() {
        HiddenFacts x = new HiddenFacts();
        checks.due("goal(0, 0), the first that is taken", x.goal(0, 0), 16);
        checks.due("goal(15, 15), the last that is taken", x.goal(15, 15), 1);
        for (int bits : Checks.outOf(0, 15)) {
            checks.refused("goal(" + bits + ", 0)", ARGUMENT, Scenes::busy, y -> y.goal(bits, 0));
            checks.refused("goal(0, " + bits + ")", ARGUMENT, Scenes::busy, y -> y.goal(0, bits));
            checks.refused("goal(15, " + bits + ") at first", ARGUMENT, HiddenFacts::new, y -> y.goal(15, bits));
        }
    }

    private static void startBelief() {
        HiddenFacts x = Scenes.busy();
        checks.due("start()", x.start(), 3);
        x.action(7, 15, 15, 3);
        x.effect(7, 3, true, 0, 0);
        x.goal(15, 15);
        x.hide(15);
        x.execute();
        checks.due("start(): nothing but clauses changes it", x.start(), 3);
        x.clause(0, 1);
        checks.due("start() of one state, the first", x.start(), 1);
        x.clause(1, 0);
        checks.due("start() of none", x.start(), 0);
        x.clear();
        Scenes.only(x, 15);
        checks.due("start() of one state, the last", x.start(), 1 << 15);
    }

    private static void withoutClauses() {
        HiddenFacts x = new HiddenFacts();
        checks.due("start()", x.start(), 65535);
        checks.dueThrow("clause(16, 16)", ARGUMENT, () -> x.clause(16, 16));
        checks.due("start() behind a refused clause", x.start(), 65535);
        x.clause(0, 0);
        x.clear();
        checks.due("start() behind clear", x.start(), 65535);
    }

    private static void eachClauseHolds() {
        for (int s = 0; s < 16; s++) {
            HiddenFacts x = new HiddenFacts();
            Scenes.only(x, s);
            checks.due("start() of state " + s + " alone", x.start(), 1 << s);
        }
        HiddenFacts x = new HiddenFacts();
        int start = 65535;
        int[] out = {0, 15, 5, 10, 6, 9};
        for (int s : out) {
            x.clause(15 & ~s, s);
            start &= ~(1 << s);
            checks.due("start() without " + s + " too", x.start(), start);
        }
        checks.due("twins(), the first two that are left", x.twins(), 16 * 1 + 2);
    }

    private static void aClauseHolds() {
        for (int f = 0; f < 4; f++) {
            HiddenFacts x = new HiddenFacts();
            x.clause(1 << f, 0);
            HiddenFacts y = new HiddenFacts();
            y.clause(0, 1 << f);
            for (int s = 0; s < 16; s++) {
                boolean is = (s >> f & 1) != 0;
                checks.due("hide(" + s + "), fact " + f + " true", x.hide(s), is);
                checks.due("hide(" + s + "), fact " + f + " false", y.hide(s), !is);
            }
        }
        checks.due("clause(0, 0): no fact at all, it never holds", startOf(0, 0), 0);
        checks.due("clause(15, 0): all but 0", startOf(15, 0), 65535 & ~1);
        checks.due("clause(0, 15): all but 15", startOf(0, 15), 65535 >> 1);
        checks.due("clause(15, 15): it always holds", startOf(15, 15), 65535);
        checks.due("clause(4, 4): a fact in both sets", startOf(4, 4), 65535);
        checks.due("clause(1, 8)", startOf(1, 8), 0xAAFF);
    }

    private static int startOf(int trues, int falses) {
        HiddenFacts x = new HiddenFacts();
        x.clause(trues, falses);
        return x.start();
    }
}
