/** Objects that the tests of the edges begin with. */
final class Scenes {
    static final String BUSY_PLAN = "1/1/4 0/2/-1 5/3/-1 -1/-1/-1 2/5/-1 3/3/-1";
    static final String FULL_PLAN = "0/1/9 1/2/6 2/3/5 3/4/-1 -1/-1/-1 6/4/-1 2/7/8 5/4/-1 4/4/-1"
            + " 1/10/13 2/11/12 4/-1/4 5/-1/4 2/14/15 6/-1/4 3/-1/4";

    private Scenes() {}

    /**
     * Start belief 0 and 1; behind sensing fact 0 (action 1) state 1 needs the actions 2 and 3,
     * state 0 only action 5: within two the idle action 0 comes first there.
     */
    static HiddenFacts idle() {
        HiddenFacts x = new HiddenFacts();
        x.clause(0, 2);
        x.clause(0, 4);
        x.clause(0, 8);
        x.goal(6, 6);
        x.action(0, 0, 0, -1);
        x.action(1, 0, 0, 0);
        x.action(2, 1, 1, -1);
        x.effect(2, 1, true, 0, 0);
        x.action(3, 3, 3, -1);
        x.effect(3, 2, true, 0, 0);
        x.action(5, 1, 0, -1);
        x.effect(5, 1, true, 0, 0);
        x.effect(5, 2, true, 0, 0);
        return x;
    }

    /**
     * Some of everything, none of it full: the actions 6 and 7 are not there, action 4 (which the
     * plan does not need) has three effects. The plan of three actions was carried out from 1.
     */
    static HiddenFacts busy() {
        HiddenFacts x = idle();
        x.action(4, 9, 8, 3);
        x.effect(4, 3, false, 2, 2);
        x.effect(4, 0, true, 4, 0);
        x.effect(4, 1, true, 4, 4);
        x.plan(4);
        x.hide(1);
        x.execute();
        return x;
    }

    /**
     * As much as there can be: eight actions with four effects each, six clauses, a plan of 16 nodes
     * and four actions, carried out from 5. Three facts are sensed; each of the actions 3 to 6 makes
     * fact 3 true in one state and in its opposite, which it tells apart by fact 0.
     */
    static HiddenFacts full() {
        HiddenFacts x = new HiddenFacts();
        x.goal(8, 8);
        for (int c = 0; c < 6; c++) {
            x.clause(0, 8);
        }
        for (int a = 0; a < 8; a++) {
            x.action(a, 0, 0, a < 3 ? a : a < 7 ? 0 : -1);
            int s = a - 3;
            for (int e = 0; e < 4; e++) {
                boolean makes = s >= 0 && s < 4 && e < 2;
                x.effect(a, 3, true, makes ? 7 : 8, makes ? e == 0 ? s : 7 - s : 8);
            }
        }
        x.plan(4);
        x.hide(5);
        x.execute();
        return x;
    }

    /** A path: action k can be used in state k alone, and leads to k + 1; the goal is the state n. */
    static HiddenFacts path(int n) {
        HiddenFacts x = new HiddenFacts();
        for (int k = 0; k < n; k++) {
            step(x, k, -1);
        }
        x.goal(15, n);
        return x;
    }

    /** One action of a path, which senses a fact of the state that it leads to. */
    static void step(HiddenFacts x, int k, int sense) {
        x.action(k, 15, k, sense);
        for (int f = 0; f < 4; f++) {
            x.effect(k, f, (k + 1 >> f & 1) != 0, 0, 0);
        }
    }

    /** Makes the start belief of a new object to be one state alone: in four clauses. */
    static void only(HiddenFacts x, int state) {
        for (int f = 0; f < 4; f++) {
            int bit = 1 << f;
            x.clause(state & bit, ~state & bit);
        }
    }

    /** Makes the start belief of a new object to be two states: in at most four clauses. */
    static void onlyTwo(HiddenFacts x, int one, int other) {
        int differ = one ^ other;
        for (int f = 0; f < 4; f++) {
            int bit = 1 << f;
            if ((differ & bit) == 0) {
                x.clause(one & bit, ~one & bit);
            } else if (differ != bit) {
                // Where the fact is as in one, the next one that differs is so too, round and round.
                int next = nextBit(differ, bit);
                x.clause(~one & bit | one & next, one & bit | ~one & next);
            }
        }
    }

    private static int nextBit(int bits, int bit) {
        int next = bit;
        do {
            next = next == 8 ? 1 : next << 1;
        } while ((bits & next) == 0);
        return next;
    }
}
