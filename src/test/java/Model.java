import java.util.ArrayList;
import java.util.LinkedHashMap;
import java.util.List;
import java.util.Map;
import java.util.NoSuchElementException;
import java.util.TreeSet;

/**
 * The document word by word, without a thought of speed: it keeps demands, effects and clauses as
 * they were told, beliefs as sets of states and plans as trees, where HiddenFacts keeps masks.
 */
final class Model {
    private record Demand(int mask, int value) {
        boolean holds(int state) {
            return (state & mask) == (value & mask);
        }

        boolean holdsInAll(TreeSet<Integer> states) {
            for (int state : states) {
                if (!holds(state)) {
                    return false;
                }
            }
            return true;
        }
    }

    private record Effect(int fact, boolean makes, Demand demand) {}

    private record Action(Demand condition, int sense, List<Effect> effects) {
        int next(int state) {
            int next = 0;
            for (int fact = 0; fact < 4; fact++) {
                boolean is = (state >> fact) % 2 == 1;
                for (Effect effect : effects) {
                    if (effect.fact == fact && effect.demand.holds(state)) {
                        is = effect.makes;
                    }
                }
                next += is ? 1 << fact : 0;
            }
            return next;
        }

        int sensed(int state) {
            return sense == -1 ? 0 : (state >> sense) % 2;
        }

        TreeSet<Integer> behind(TreeSet<Integer> states) {
            TreeSet<Integer> behind = new TreeSet<>();
            for (int state : states) {
                behind.add(next(state));
            }
            return behind;
        }

        TreeSet<Integer> part(TreeSet<Integer> states, int which) {
            TreeSet<Integer> part = behind(states);
            part.removeIf(state -> sensed(state) != which);
            return part;
        }
    }

    private record Clause(int trues, int falses) {
        boolean holds(int state) {
            for (int fact = 0; fact < 4; fact++) {
                int is = (state >> fact) % 2;
                if (is == 1 && (trues >> fact) % 2 == 1 || is == 0 && (falses >> fact) % 2 == 1) {
                    return true;
                }
            }
            return false;
        }
    }

    /** A leaf has the action -1 and no parts; an empty part is null. */
    private record Plan(int action, Plan part0, Plan part1) {}

    private final Action[] actions = new Action[8];
    private final List<Clause> clauses = new ArrayList<>();
    private Demand goal = new Demand(0, 0);
    private List<int[]> nodes = new ArrayList<>();
    private int hidden = -1;
    private final List<Integer> trace = new ArrayList<>();

    int clear() {
        int were = 0;
        for (int a = 0; a < 8; a++) {
            were += actions[a] == null ? 0 : 1;
            actions[a] = null;
        }
        clauses.clear();
        goal = new Demand(0, 0);
        nodes = new ArrayList<>();
        hidden = -1;
        trace.clear();
        return were;
    }

    boolean action(int a, int mask, int value, int sense) {
        index(a < 0 || a > 7);
        argument(mask < 0 || mask > 15 || value < 0 || value > 15 || sense < -1 || sense > 3);
        boolean before = actions[a] != null;
        actions[a] = new Action(new Demand(mask, value), sense, new ArrayList<>());
        return before;
    }

    int effect(int a, int fact, boolean makes, int mask, int value) {
        index(a < 0 || a > 7);
        element(actions[a] == null);
        argument(mask < 0 || mask > 15 || value < 0 || value > 15 || fact < 0 || fact > 3);
        state(actions[a].effects.size() == 4);
        actions[a].effects.add(new Effect(fact, makes, new Demand(mask, value)));
        return actions[a].effects.size();
    }

    int clause(int trues, int falses) {
        argument(trues < 0 || trues > 15 || falses < 0 || falses > 15);
        state(clauses.size() == 6);
        clauses.add(new Clause(trues, falses));
        return clauses.size();
    }

    int goal(int mask, int value) {
        argument(mask < 0 || mask > 15 || value < 0 || value > 15);
        goal = new Demand(mask, value);
        int in = 0;
        for (int state = 0; state < 16; state++) {
            in += goal.holds(state) ? 1 : 0;
        }
        return in;
    }

    int start() {
        return number(startStates());
    }

    int behind(int a, int belief) {
        index(a < 0 || a > 7);
        element(actions[a] == null);
        argument(belief < 0 || belief > 65535);
        if (!actions[a].condition.holdsInAll(states(belief))) {
            throw new UnsupportedOperationException();
        }
        return number(actions[a].behind(states(belief)));
    }

    int least(int belief, int most) {
        argument(belief < 1 || belief > 65535 || most < 0 || most > 4);
        return fewest(states(belief), most);
    }

    int plan(int most) {
        argument(most < 0 || most > 4);
        state(startStates().isEmpty());
        int within = fewest(startStates(), most);
        Map<Plan, Integer> numbers = new LinkedHashMap<>();
        number(planFor(startStates(), within), numbers);
        nodes = new ArrayList<>();
        for (Plan plan : numbers.keySet()) {
            int part0 = plan.part0 == null ? -1 : numbers.get(plan.part0);
            int part1 = plan.part1 == null ? -1 : numbers.get(plan.part1);
            nodes.add(new int[] {plan.action, part0, part1});
        }
        return within;
    }

    int nodes() {
        return nodes.size();
    }

    int node(int i, int what) {
        index(i < 0 || i >= nodes.size() || what < 0 || what > 2);
        return nodes.get(i)[what];
    }

    int edit(int i, int a) {
        index(i < 0 || i >= nodes.size() || a < 0 || a > 7);
        element(actions[a] == null);
        int had = nodes.get(i)[0];
        if (had == -1) {
            throw new UnsupportedOperationException();
        }
        nodes.get(i)[0] = a;
        return had;
    }

    boolean right() {
        state(nodes.isEmpty());
        return startStates().isEmpty() || rightFrom(0, startStates());
    }

    boolean hide(int state) {
        argument(state < 0 || state > 15);
        hidden = state;
        return startStates().contains(state);
    }

    boolean execute() {
        state(nodes.isEmpty() || hidden == -1);
        trace.clear();
        int state = hidden;
        int at = 0;
        while (at != -1 && nodes.get(at)[0] != -1) {
            Action action = actions[nodes.get(at)[0]];
            if (action == null || !action.condition.holds(state)) {
                return false;
            }
            state = action.next(state);
            trace.add(state);
            at = nodes.get(at)[1 + action.sensed(state)];
        }
        return at != -1 && goal.holds(state);
    }

    int made() {
        return trace.size();
    }

    int trace(int k) {
        index(k < 0 || k >= trace.size());
        return trace.get(k);
    }

    int twins() {
        List<Integer> start = new ArrayList<>(startStates());
        for (int low : start) {
            for (int high : start) {
                if (low < high && !toldApart(low, high, startStates(), 3)) {
                    return 16 * low + high;
                }
            }
        }
        throw new NoSuchElementException();
    }

    private boolean toldApart(int one, int other, TreeSet<Integer> belief, int more) {
        for (Action action : actions) {
            if (more > 0 && action != null && action.condition.holdsInAll(belief)) {
                int oneNext = action.next(one);
                int otherNext = action.next(other);
                if (action.sensed(oneNext) != action.sensed(otherNext)
                        || toldApart(oneNext, otherNext, action.behind(belief), more - 1)) {
                    return true;
                }
            }
        }
        return false;
    }

    private TreeSet<Integer> startStates() {
        TreeSet<Integer> states = states(65535);
        for (Clause clause : clauses) {
            states.removeIf(state -> !clause.holds(state));
        }
        return states;
    }

    private int fewest(TreeSet<Integer> states, int most) {
        for (int n = 0; n <= most; n++) {
            if (solved(states, n)) {
                return n;
            }
        }
        throw new NoSuchElementException();
    }

    private boolean solved(TreeSet<Integer> states, int n) {
        if (goal.holdsInAll(states)) {
            return true;
        }
        for (Action action : actions) {
            if (n > 0 && solvedBy(action, states, n)) {
                return true;
            }
        }
        return false;
    }

    private boolean solvedBy(Action action, TreeSet<Integer> states, int n) {
        if (action == null || !action.condition.holdsInAll(states)) {
            return false;
        }
        for (int which = 0; which < 2; which++) {
            TreeSet<Integer> part = action.part(states, which);
            if (!part.isEmpty() && !solved(part, n - 1)) {
                return false;
            }
        }
        return true;
    }

    private Plan planFor(TreeSet<Integer> states, int n) {
        if (states.isEmpty()) {
            return null;
        }
        if (goal.holdsInAll(states)) {
            return new Plan(-1, null, null);
        }
        int a = 0;
        while (!solvedBy(actions[a], states, n)) {
            a++;
        }
        Plan part0 = planFor(actions[a].part(states, 0), n - 1);
        return new Plan(a, part0, planFor(actions[a].part(states, 1), n - 1));
    }

    private static void number(Plan plan, Map<Plan, Integer> numbers) {
        if (plan != null) {
            numbers.putIfAbsent(plan, numbers.size());
            number(plan.part0, numbers);
            number(plan.part1, numbers);
        }
    }

    private boolean rightFrom(int i, TreeSet<Integer> states) {
        if (nodes.get(i)[0] == -1) {
            return goal.holdsInAll(states);
        }
        Action action = actions[nodes.get(i)[0]];
        if (action == null || !action.condition.holdsInAll(states)) {
            return false;
        }
        for (int which = 0; which < 2; which++) {
            TreeSet<Integer> part = action.part(states, which);
            int next = nodes.get(i)[1 + which];
            if (!part.isEmpty() && (next == -1 || !rightFrom(next, part))) {
                return false;
            }
        }
        return true;
    }

    private static TreeSet<Integer> states(int belief) {
        TreeSet<Integer> states = new TreeSet<>();
        for (int state = 0; state < 16; state++) {
            if ((belief >> state) % 2 == 1) {
                states.add(state);
            }
        }
        return states;
    }

    private static int number(TreeSet<Integer> states) {
        int belief = 0;
        for (int state : states) {
            belief += 1 << state;
        }
        return belief;
    }

    private static void index(boolean wrong) {
        if (wrong) {
            throw new IndexOutOfBoundsException();
        }
    }

    private static void argument(boolean wrong) {
        if (wrong) {
            throw new IllegalArgumentException();
        }
    }

    private static void state(boolean wrong) {
        if (wrong) {
            throw new IllegalStateException();
        }
    }

    private static void element(boolean wrong) {
        if (wrong) {
            throw new NoSuchElementException();
        }
    }
}
