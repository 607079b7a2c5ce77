import java.util.List;
import java.util.Map;
import java.util.Random;
import java.util.TreeMap;
import java.util.function.Supplier;

/** Runs of 512 calls of all kinds, ordinary and wrong, on a HiddenFacts and on a Model at once. */
public final class ModelTest {
    private static final int RUNS = 400;
    private static final int CALLS = 512;
    /** What the runs must have met, so that none of it goes unseen when the runs are changed. */
    private static final List<String> MUST_MEET = List.of(
            "action IndexOutOfBoundsException", "action IllegalArgumentException",
            "effect IndexOutOfBoundsException", "effect NoSuchElementException",
            "effect IllegalArgumentException", "effect IllegalStateException",
            "clause IllegalArgumentException", "clause IllegalStateException",
            "goal IllegalArgumentException",
            "behind IndexOutOfBoundsException", "behind NoSuchElementException",
            "behind IllegalArgumentException", "behind UnsupportedOperationException",
            "least 0", "least 1", "least 2", "least 3", "least 4",
            "least IllegalArgumentException", "least NoSuchElementException",
            "plan 0", "plan 1", "plan 2", "plan 3", "plan 4",
            "plan IllegalArgumentException", "plan IllegalStateException", "plan NoSuchElementException",
            "nodes 0", "nodes 1", "nodes 2", "nodes 3", "nodes 4", "nodes 5", "nodes 6", "nodes 7",
            "node IndexOutOfBoundsException",
            "edit IndexOutOfBoundsException", "edit NoSuchElementException",
            "edit UnsupportedOperationException",
            "right true", "right false", "right IllegalStateException",
            "hide true", "hide false", "hide IllegalArgumentException",
            "execute true", "execute false", "execute IllegalStateException",
            "made 0", "made 1", "made 2", "made 3", "made 4",
            "trace IndexOutOfBoundsException", "twins NoSuchElementException");

    private final Checks checks = new Checks();
    private final Map<String, Integer> met = new TreeMap<>();
    private final Random random = new Random(20);
    private HiddenFacts facts;
    private Model model;
    private String run;

    public static void main(String[] args) {
        ModelTest test = new ModelTest();
        for (int r = 0; r < RUNS; r++) {
            test.oneRun(r);
        }
        for (String kind : MUST_MEET) {
            test.checks.due("the runs meet " + kind, test.met.containsKey(kind), true);
        }
        test.checks.end();
    }

    private void oneRun(int r) {
        facts = new HiddenFacts();
        model = new Model();
        run = "run " + r + ": ";
        int calls = 0;
        while (calls < CALLS) {
            int rest = CALLS - calls;
            calls += random.nextInt(40) == 0 ? setUp(rest) : one(random.nextInt(100));
        }
    }

    /** One call, or one and a look at what came of it: how many. */
    private int one(int dice) {
        if (dice < 4) {
            action(number(8), bits(), bits(), number(5) - 1);
        } else if (dice < 10) {
            effect(number(8), number(4), bits(), bits());
        } else if (dice < 11) {
            clause(bits(), bits());
        } else if (dice < 14) {
            goal(bits(), bits());
        } else if (dice < 24) {
            behind(number(8), belief());
        } else if (dice < 32) {
            least(belief(), number(5));
        } else if (dice < 40) {
            int most = random.nextInt(3) == 0 ? number(5) : 4;
            same("plan", "plan(" + most + ")", () -> facts.plan(most), () -> model.plan(most));
            same("nodes", "nodes()", () -> facts.nodes(), () -> model.nodes());
            return 2;
        } else if (dice < 55) {
            int i = number(8);
            int what = number(3);
            same("node", "node(" + i + ", " + what + ")", () -> facts.node(i, what), () -> model.node(i, what));
        } else if (dice < 61) {
            int i = number(6);
            int a = number(8);
            same("edit", "edit(" + i + ", " + a + ")", () -> facts.edit(i, a), () -> model.edit(i, a));
        } else if (dice < 68) {
            same("right", "right()", () -> facts.right(), () -> model.right());
        } else if (dice < 75) {
            int state = number(16);
            same("hide", "hide(" + state + ")", () -> facts.hide(state), () -> model.hide(state));
        } else if (dice < 85) {
            same("execute", "execute()", () -> facts.execute(), () -> model.execute());
            same("made", "made()", () -> facts.made(), () -> model.made());
            return 2;
        } else if (dice < 92) {
            int k = number(4);
            same("trace", "trace(" + k + ")", () -> facts.trace(k), () -> model.trace(k));
        } else if (dice < 97) {
            same("twins", "twins()", () -> facts.twins(), () -> model.twins());
        } else {
            same("start", "start()", () -> facts.start(), () -> model.start());
        }
        return 1;
    }

    /** Begins again with a new problem that is likely to have a plan of some depth: in how many calls. */
    private int setUp(int rest) {
        if (rest < 64) {
            return one(99);
        }
        int calls = 2;
        same("clear", "clear()", () -> facts.clear(), () -> model.clear());
        goal(random.nextInt(16), random.nextInt(16));
        for (int c = random.nextInt(4); c > 0; c--) {
            clause(random.nextInt(16), random.nextInt(16));
            calls++;
        }
        int actions = 1 + random.nextInt(8);
        for (int a = 0; a < actions; a++) {
            int mask = random.nextInt(16) & random.nextInt(16);
            action(a, mask, random.nextInt(16), random.nextInt(5) - 1);
            calls++;
            for (int e = random.nextInt(4); e > 0; e--) {
                int when = random.nextInt(16) & random.nextInt(16) & random.nextInt(16);
                effect(a, random.nextInt(4), when, random.nextInt(16));
                calls++;
            }
        }
        return calls;
    }

    private void action(int a, int mask, int value, int sense) {
        same("action", "action(" + a + ", " + mask + ", " + value + ", " + sense + ")",
                () -> facts.action(a, mask, value, sense), () -> model.action(a, mask, value, sense));
    }

    private void effect(int a, int fact, int mask, int value) {
        boolean makes = random.nextBoolean();
        same("effect", "effect(" + a + ", " + fact + ", " + makes + ", " + mask + ", " + value + ")",
                () -> facts.effect(a, fact, makes, mask, value),
                () -> model.effect(a, fact, makes, mask, value));
    }

    private void clause(int trues, int falses) {
        same("clause", "clause(" + trues + ", " + falses + ")",
                () -> facts.clause(trues, falses), () -> model.clause(trues, falses));
    }

    private void goal(int mask, int value) {
        same("goal", "goal(" + mask + ", " + value + ")",
                () -> facts.goal(mask, value), () -> model.goal(mask, value));
    }

    private void behind(int a, int belief) {
        same("behind", "behind(" + a + ", " + belief + ")",
                () -> facts.behind(a, belief), () -> model.behind(a, belief));
    }

    private void least(int belief, int most) {
        same("least", "least(" + belief + ", " + most + ")",
                () -> facts.least(belief, most), () -> model.least(belief, most));
    }

    /** 0 .. bound - 1, now and then a number out of these. */
    private int number(int bound) {
        return switch (random.nextInt(48)) {
            case 0 -> -1;
            case 1 -> bound;
            case 2 -> -1 - random.nextInt(Integer.MAX_VALUE);
            case 3 -> Integer.MAX_VALUE - random.nextInt(65536);
            default -> random.nextInt(bound);
        };
    }

    private int bits() {
        return number(16) & (random.nextBoolean() ? -1 : ~random.nextInt(16));
    }

    private int belief() {
        int few = random.nextInt(65536) & random.nextInt(65536) & random.nextInt(65536);
        return switch (random.nextInt(4)) {
            case 0 -> number(65536);
            case 1 -> 1 << random.nextInt(16);
            case 2 -> model.start();
            default -> few;
        };
    }

    private void same(String name, String call, Supplier<Object> got, Supplier<Object> want) {
        String due = Checks.answer(want);
        met.merge(name + " " + due, 1, Integer::sum);
        checks.due(run + call, Checks.answer(got), due);
    }
}
