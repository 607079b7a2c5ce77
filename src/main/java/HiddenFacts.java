import java.util.NoSuchElementException;

/**
 * A planner for facts that are hidden. What is known is a belief, a set of states; demands are held
 * as beliefs too (the states in which they hold), so that to look at a whole belief is one mask.
 */
public final class HiddenFacts {
    public static final int NONE = -1;

    private static final int FACTS = 4;
    private static final int STATES = 16;
    private static final int HIGHEST_BITS = 15;
    private static final int ALL_STATES = 65535;
    private static final int ACTIONS = 8;
    private static final int MOST_EFFECTS = 4;
    private static final int MOST_CLAUSES = 6;
    private static final int DEEPEST = 4;
    private static final int LONGEST_ROW = 3;

    /** For each fact the states in which it is true. */
    private static final int[] TRUE_IN = {0xAAAA, 0xCCCC, 0xF0F0, 0xFF00};

    private final Action[] actions = new Action[ACTIONS];
    private final Tree tree = new Tree();
    private final Sight sight = new Sight();
    private final int[] trace = new int[DEEPEST];
    private int clauses;
    private int startBelief;
    private int goalStates;
    private int hidden;
    private int made;

    public HiddenFacts() {
        for (int a = 0; a < ACTIONS; a++) {
            actions[a] = new Action();
        }
        forgetAll();
    }

    public int clear() {
        int were = 0;
        for (int a = 0; a < ACTIONS; a++) {
            if (actions[a].there) {
                were++;
            }
        }
        forgetAll();
        return were;
    }

    public boolean action(int a, int mask, int value, int sense)
            throws IndexOutOfBoundsException, IllegalArgumentException {
        needNumber(a);
        needBits(mask, value);
        if (sense < NONE || sense >= FACTS) {
            throw new IllegalArgumentException("no such fact to sense");
        }
        boolean before = actions[a].there;
        actions[a].begin(demanded(mask, value), sense == NONE ? 0 : TRUE_IN[sense]);
        return before;
    }

    public int effect(int a, int fact, boolean makes, int mask, int value)
            throws IndexOutOfBoundsException, NoSuchElementException, IllegalArgumentException,
            IllegalStateException {
        needNumber(a);
        needThere(a);
        needBits(mask, value);
        if (fact < 0 || fact >= FACTS) {
            throw new IllegalArgumentException("no such fact");
        }
        if (actions[a].effects >= MOST_EFFECTS) {
            throw new IllegalStateException("the action has all its effects");
        }
        actions[a].addEffect(1 << fact, makes, demanded(mask, value));
        return actions[a].effects;
    }

    public int clause(int trues, int falses) throws IllegalArgumentException, IllegalStateException {
        needBits(trues, falses);
        if (clauses >= MOST_CLAUSES) {
            throw new IllegalStateException("all clauses are there");
        }
        startBelief &= allowed(trues, falses);
        clauses++;
        return clauses;
    }

    public int goal(int mask, int value) throws IllegalArgumentException {
        needBits(mask, value);
        goalStates = demanded(mask, value);
        return Integer.bitCount(goalStates);
    }

    public int start() {
        return startBelief;
    }

    public int behind(int a, int belief)
            throws IndexOutOfBoundsException, NoSuchElementException, IllegalArgumentException,
            UnsupportedOperationException {
        needNumber(a);
        needThere(a);
        if (belief < 0 || belief > ALL_STATES) {
            throw new IllegalArgumentException("no belief");
        }
        if (!actions[a].usable(belief)) {
            throw new UnsupportedOperationException("the action is not usable in the belief");
        }
        return actions[a].after(belief);
    }

    public int least(int belief, int most) throws IllegalArgumentException, NoSuchElementException {
        if (belief < 1 || belief > ALL_STATES) {
            throw new IllegalArgumentException("no belief, or the empty one");
        }
        needDepth(most);
        return needSolved(fewest(belief, most));
    }

    public int plan(int most)
            throws IllegalArgumentException, IllegalStateException, NoSuchElementException {
        needDepth(most);
        if (startBelief == 0) {
            throw new IllegalStateException("the start belief is empty");
        }
        int within = needSolved(fewest(startBelief, most));
        tree.empty();
        grow(startBelief, within);
        return within;
    }

    public int nodes() {
        return tree.count;
    }

    public int node(int i, int what) throws IndexOutOfBoundsException {
        needNode(i);
        if (what < 0 || what >= Tree.WIDTH) {
            throw new IndexOutOfBoundsException("a node has no such part");
        }
        return tree.cell(i, what);
    }

    public int edit(int i, int a)
            throws IndexOutOfBoundsException, NoSuchElementException, UnsupportedOperationException {
        needNode(i);
        needNumber(a);
        needThere(a);
        int had = tree.cell(i, Tree.ACTION);
        if (had == NONE) {
            throw new UnsupportedOperationException("a leaf has no action");
        }
        tree.setAction(i, a);
        return had;
    }

    public boolean right() throws IllegalStateException {
        needPlan();
        return fits(0, startBelief, DEEPEST);
    }

    public boolean hide(int state) throws IllegalArgumentException {
        if (state < 0 || state >= STATES) {
            throw new IllegalArgumentException("no such state");
        }
        hidden = state;
        return isIn(state, startBelief);
    }

    public boolean execute() throws IllegalStateException {
        needPlan();
        if (hidden == NONE) {
            throw new IllegalStateException("no state is hidden");
        }
        return carryOut();
    }

    public int made() {
        return made;
    }

    public int trace(int k) throws IndexOutOfBoundsException {
        if (k < 0 || k >= made) {
            throw new IndexOutOfBoundsException("no such action was made");
        }
        return trace[k];
    }

    public int twins() throws NoSuchElementException {
        sight.open(startBelief);
        look(startBelief, 0);
        int pair = sight.firstAlike();
        if (pair == NONE) {
            throw new NoSuchElementException("all states can be told apart");
        }
        return pair;
    }

    private void forgetAll() {
        for (int a = 0; a < ACTIONS; a++) {
            actions[a].there = false;
        }
        tree.empty();
        clauses = 0;
        startBelief = ALL_STATES;
        goalStates = ALL_STATES;
        hidden = NONE;
        made = 0;
    }

    private static void needNumber(int a) {
        if (a < 0 || a >= ACTIONS) {
            throw new IndexOutOfBoundsException("no such number of an action");
        }
    }

    private void needThere(int a) {
        if (!actions[a].there) {
            throw new NoSuchElementException("the action is not there");
        }
    }

    private static void needBits(int first, int second) {
        if (first < 0 || first > HIGHEST_BITS || second < 0 || second > HIGHEST_BITS) {
            throw new IllegalArgumentException("not bits of the facts");
        }
    }

    private static void needDepth(int most) {
        if (most < 0 || most > DEEPEST) {
            throw new IllegalArgumentException("no such depth");
        }
    }

    private static int needSolved(int within) {
        if (within == NONE) {
            throw new NoSuchElementException("the belief is not solved");
        }
        return within;
    }

    private void needNode(int i) {
        if (i < 0 || i >= tree.count) {
            throw new IndexOutOfBoundsException("no such node");
        }
    }

    private void needPlan() {
        if (tree.count == 0) {
            throw new IllegalStateException("there is no plan");
        }
    }

    private static boolean isIn(int state, int belief) {
        return (belief >> state & 1) != 0;
    }

    private static int demanded(int mask, int value) {
        int belief = 0;
        for (int s = 0; s < STATES; s++) {
            if ((s & mask) == (value & mask)) {
                belief |= 1 << s;
            }
        }
        return belief;
    }

    private static int allowed(int trues, int falses) {
        int belief = 0;
        for (int s = 0; s < STATES; s++) {
            if ((s & trues) != 0 || (~s & falses) != 0) {
                belief |= 1 << s;
            }
        }
        return belief;
    }

    private int fewest(int belief, int most) {
        for (int n = 0; n <= most; n++) {
            if (solved(belief, n)) {
                return n;
            }
        }
        return NONE;
    }

    /** The empty belief counts as solved here: an empty part asks for nothing. */
    private boolean solved(int belief, int n) {
        return reached(belief) || leastAction(belief, n) != NONE;
    }

    private boolean reached(int belief) {
        return (belief & ~goalStates) == 0;
    }

    private int leastAction(int belief, int n) {
        if (n <= 0) {
            return NONE;
        }
        for (int a = 0; a < ACTIONS; a++) {
            if (actions[a].usable(belief) && solves(actions[a], belief, n)) {
                return a;
            }
        }
        return NONE;
    }

    private boolean solves(Action action, int belief, int n) {
        int after = action.after(belief);
        return solved(action.part(after, 0), n - 1) && solved(action.part(after, 1), n - 1);
    }

    /** Answers the node of the plan for a belief that is solved within n. */
    private int grow(int belief, int n) {
        int me = tree.open();
        int a = reached(belief) ? NONE : leastAction(belief, n);
        if (a == NONE) {
            return tree.close(me, NONE, NONE, NONE);
        }
        int after = actions[a].after(belief);
        int part0 = growPart(actions[a].part(after, 0), n - 1);
        int part1 = growPart(actions[a].part(after, 1), n - 1);
        return tree.close(me, a, part0, part1);
    }

    private int growPart(int belief, int n) {
        return belief == 0 ? NONE : grow(belief, n);
    }

    /** No plan is deeper than it was made, so that the guard on the depth never decides. */
    private boolean fits(int i, int belief, int deep) {
        if (belief == 0) {
            return true;
        }
        if (i == NONE || deep < 0) {
            return false;
        }
        int a = tree.cell(i, Tree.ACTION);
        if (a == NONE) {
            return reached(belief);
        }
        if (!actions[a].usable(belief)) {
            return false;
        }
        int after = actions[a].after(belief);
        return fits(tree.cell(i, Tree.PART0), actions[a].part(after, 0), deep - 1)
                && fits(tree.cell(i, Tree.PART0 + 1), actions[a].part(after, 1), deep - 1);
    }

    private boolean carryOut() {
        int i = 0;
        int state = hidden;
        made = 0;
        while (made < DEEPEST && i != NONE && tree.cell(i, Tree.ACTION) != NONE) {
            Action action = actions[tree.cell(i, Tree.ACTION)];
            if (!action.usable(1 << state)) {
                return false;
            }
            state = action.next[state];
            trace[made] = state;
            made++;
            i = tree.cell(i, Tree.PART0 + action.sensed(state));
        }
        return i != NONE && tree.cell(i, Tree.ACTION) == NONE && isIn(state, goalStates);
    }

    /** Goes through all rows of actions that are usable one behind the other, each row once. */
    private void look(int belief, int done) {
        if (done >= LONGEST_ROW) {
            return;
        }
        for (int a = 0; a < ACTIONS; a++) {
            if (actions[a].usable(belief)) {
                sight.step(actions[a], done);
                look(actions[a].after(belief), done + 1);
            }
        }
    }

    /** An action's effects are kept as what comes of each state: a later effect writes over it. */
    private static final class Action {
        private boolean there;
        private int condition;
        private int senses;
        private int effects;
        private final int[] next = new int[STATES];

        /** The condition, and the sensed fact (no states without one), are told as states. */
        void begin(int conditionStates, int sensedStates) {
            there = true;
            condition = conditionStates;
            senses = sensedStates;
            effects = 0;
            for (int s = 0; s < STATES; s++) {
                next[s] = s;
            }
        }

        void addEffect(int factBit, boolean makes, int demandStates) {
            for (int s = 0; s < STATES; s++) {
                if (isIn(s, demandStates)) {
                    next[s] = makes ? next[s] | factBit : next[s] & ~factBit;
                }
            }
            effects++;
        }

        boolean usable(int belief) {
            return there && (belief & ~condition) == 0;
        }

        int after(int belief) {
            int found = 0;
            for (int s = 0; s < STATES; s++) {
                if (isIn(s, belief)) {
                    found |= 1 << next[s];
                }
            }
            return found;
        }

        int part(int belief, int which) {
            return which == 0 ? belief & ~senses : belief & senses;
        }

        int sensed(int state) {
            return isIn(state, senses) ? 1 : 0;
        }
    }

    /** The nodes of a plan, in a row of cells; without nodes there is no plan. */
    private static final class Tree {
        private static final int ACTION = 0;
        private static final int PART0 = 1;
        private static final int WIDTH = 3;
        /** Every node of a plan of the greatest depth, before equal ones become one. */
        private static final int MOST_NODES = 31;
        /** Stands for the action of a node whose parts still grow: no finished node equals it. */
        private static final int UNFINISHED = -2;

        private final int[] cells = new int[WIDTH * MOST_NODES];
        private int count;

        void empty() {
            count = 0;
        }

        int cell(int i, int what) {
            return cells[WIDTH * i + what];
        }

        void setAction(int i, int a) {
            cells[WIDTH * i] = a;
        }

        int open() {
            setAction(count, UNFINISHED);
            count++;
            return count - 1;
        }

        /**
         * Finishes an opened node. If an earlier node equals it, that one is answered and the number
         * is free again: the parts are then the earlier node's, so that nothing stands above it.
         */
        int close(int me, int a, int part0, int part1) {
            for (int i = 0; i < me; i++) {
                if (cell(i, ACTION) == a && cell(i, PART0) == part0 && cell(i, PART0 + 1) == part1) {
                    count = me;
                    return i;
                }
            }
            setAction(me, a);
            cells[WIDTH * me + PART0] = part0;
            cells[WIDTH * me + PART0 + 1] = part1;
            return me;
        }
    }

    /** What has come of each state of a belief by a row of actions, and what was told apart so. */
    private static final class Sight {
        private final int[] come = new int[STATES * (LONGEST_ROW + 1)];
        private final int[] apart = new int[STATES];
        private int belief;

        void open(int states) {
            belief = states;
            for (int s = 0; s < STATES; s++) {
                come[s] = s;
                apart[s] = 0;
            }
        }

        /** Makes one action more behind a row of so many that are done. */
        void step(Action action, int done) {
            int from = STATES * done;
            int seenTrue = 0;
            for (int s = 0; s < STATES; s++) {
                int state = action.next[come[from + s]];
                come[from + STATES + s] = state;
                seenTrue |= action.sensed(state) << s;
            }
            for (int s = 0; s < STATES; s++) {
                apart[s] |= isIn(s, seenTrue) ? ~seenTrue : seenTrue;
            }
        }

        int firstAlike() {
            for (int low = 0; low < STATES; low++) {
                for (int high = low + 1; high < STATES; high++) {
                    if (isIn(low, belief) && isIn(high, belief) && !isIn(high, apart[low])) {
                        return STATES * low + high;
                    }
                }
            }
            return NONE;
        }
    }
}
