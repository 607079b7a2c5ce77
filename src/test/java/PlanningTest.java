import java.util.NoSuchElementException;

/** Promises 8 to 10: behind, least, plan. */
public final class PlanningTest {
    private static final Class<IllegalArgumentException> ARGUMENT = IllegalArgumentException.class;
    private static final Class<NoSuchElementException> ELEMENT = NoSuchElementException.class;
    private static final Checks checks = new Checks();

    public static void main(String[] args) {
        behind();
        wrongBehind();
        leastOfAChain();
        leastNeedsSensing();
        leastNeedsBothParts();
        wrongLeast();
        plan();
        wrongPlan();
        checks.end();
    }

    private static void behind() {
        HiddenFacts x = new HiddenFacts();
        x.action(3, 8, 0, 1);
        x.effect(3, 3, true, 1, 1);
        checks.due("behind, sensing does not part it", x.behind(3, 0x00FF), 0xAA55);
        checks.due("behind the empty belief", x.behind(3, 0), 0);
        x.effect(3, 0, false, 0, 0);
        checks.due("states that become one", x.behind(3, 0x0003), 0x0101);
        x.effect(3, 3, true, 0, 0);
        checks.due("states that become one state", x.behind(3, 0x0003), 0x0100);
        x.action(0, 0, 0, -1);
        checks.due("behind an action without effects", x.behind(0, 65535), 65535);
    }

    private static void wrongBehind() {
        HiddenFacts x = new HiddenFacts();
        Class<IndexOutOfBoundsException> index = IndexOutOfBoundsException.class;
        checks.dueThrow("behind(-1, -1)", index, () -> x.behind(-1, -1));
        checks.dueThrow("behind(8, 65536)", index, () -> x.behind(8, 65536));
        checks.dueThrow("behind of none", ELEMENT, () -> x.behind(7, -1));
        x.action(7, 1, 1, -1);
        checks.dueThrow("behind(7, -1)", ARGUMENT, () -> x.behind(7, -1));
        checks.dueThrow("behind(7, 65536)", ARGUMENT, () -> x.behind(7, 65536));
        Class<UnsupportedOperationException> not = UnsupportedOperationException.class;
        checks.dueThrow("behind(7, 65535)", not, () -> x.behind(7, 65535));
        checks.dueThrow("behind where one state is out of the condition", not, () -> x.behind(7, 3));
        checks.due("behind in all of the condition", x.behind(7, 0xAAAA), 0xAAAA);
    }

    /** Each action makes one fact more true, where all lower ones are. */
    private static HiddenFacts chain() {
        HiddenFacts x = new HiddenFacts();
        for (int f = 0; f < 4; f++) {
            int lower = (1 << f) - 1;
            x.action(f, lower, lower, -1);
            x.effect(f, f, true, 0, 0);
        }
        x.goal(15, 15);
        return x;
    }

    private static void leastOfAChain() {
        HiddenFacts x = chain();
        checks.due("least(1 << 15, 4)", x.least(1 << 15, 4), 0);
        checks.due("least(1 << 7, 4)", x.least(1 << 7, 4), 1);
        checks.due("least(1 << 3, 4)", x.least(1 << 3, 4), 2);
        checks.due("least(1 << 1, 4)", x.least(1 << 1, 4), 3);
        checks.due("least(65535, 4)", x.least(65535, 4), 4);
        checks.dueThrow("least(65535, 3)", ELEMENT, () -> x.least(65535, 3));
        checks.due("least(1 << 3, 2)", x.least(1 << 3, 2), 2);
        checks.dueThrow("least(1 << 3, 1)", ELEMENT, () -> x.least(1 << 3, 1));
        checks.due("nodes() behind least", x.nodes(), 0);
    }

    private static void leastNeedsSensing() {
        HiddenFacts x = new HiddenFacts();
        x.goal(1, 1);
        x.action(0, 1, 0, -1);
        x.effect(0, 0, true, 0, 0);
        checks.due("least where the condition holds", x.least(0x5555, 4), 1);
        checks.dueThrow("least where it holds in some", ELEMENT, () -> x.least(65535, 4));
        x.action(5, 0, 0, 0);
        checks.due("least by sensing", x.least(65535, 4), 2);
        x.action(5, 0, 0, 1);
        checks.dueThrow("least by sensing another fact", ELEMENT, () -> x.least(65535, 4));
    }

    private static void leastNeedsBothParts() {
        HiddenFacts x = new HiddenFacts();
        x.goal(2, 2);
        x.action(0, 0, 0, 0);
        x.action(1, 1, 1, -1);
        x.effect(1, 1, true, 0, 0);
        checks.due("least of part 1", x.least(0xAAAA, 4), 1);
        checks.dueThrow("least, part 0 is not solved", ELEMENT, () -> x.least(65535, 4));
        x.action(1, 1, 0, -1);
        x.effect(1, 1, true, 0, 0);
        checks.dueThrow("least, part 1 is not solved", ELEMENT, () -> x.least(65535, 4));
        x.action(2, 1, 1, -1);
        x.effect(2, 1, true, 0, 0);
        checks.due("least, both are", x.least(65535, 4), 2);
    }

    private static void wrongLeast() {
        HiddenFacts x = new HiddenFacts();
        checks.dueThrow("least(0, 0)", ARGUMENT, () -> x.least(0, 0));
        checks.dueThrow("least(-1, 0)", ARGUMENT, () -> x.least(-1, 0));
        checks.dueThrow("least(65536, 0)", ARGUMENT, () -> x.least(65536, 0));
        checks.dueThrow("least(1, -1)", ARGUMENT, () -> x.least(1, -1));
        checks.dueThrow("least(1, 5)", ARGUMENT, () -> x.least(1, 5));
        checks.due("least(1, 4)", x.least(1, 4), 0);
        x.goal(1, 1);
        checks.dueThrow("least(1, 5), not solved", ARGUMENT, () -> x.least(1, 5));
    }

    private static void plan() {
        HiddenFacts x = chain();
        checks.due("plan(4)", x.plan(4), 4);
        checks.due("the plan", Checks.plan(x), "0/1/-1 1/2/-1 2/3/-1 3/4/-1 -1/-1/-1");
        x.clause(1, 0);
        x.clause(2, 0);
        checks.due("plan(4) of a smaller start belief", x.plan(4), 2);
        checks.due("the smaller plan", Checks.plan(x), "2/1/-1 3/2/-1 -1/-1/-1");
        checks.due("plan(2)", x.plan(2), 2);
        x.goal(0, 0);
        checks.due("plan(4) where the goal holds", x.plan(4), 0);
        checks.due("the leaf", Checks.plan(x), "-1/-1/-1");
    }

    private static void wrongPlan() {
        HiddenFacts x = chain();
        Class<IllegalStateException> state = IllegalStateException.class;
        checks.dueThrow("plan(-1)", ARGUMENT, () -> x.plan(-1));
        checks.dueThrow("plan(5)", ARGUMENT, () -> x.plan(5));
        checks.dueThrow("plan(3)", ELEMENT, () -> x.plan(3));
        checks.due("nodes() behind a refused plan", x.nodes(), 0);
        x.plan(4);
        String plan = Checks.plan(x);
        checks.dueThrow("plan(3) again", ELEMENT, () -> x.plan(3));
        checks.due("the plan stays", Checks.plan(x), plan);
        x.clause(0, 0);
        checks.dueThrow("plan(4) of an empty start belief", state, () -> x.plan(4));
        checks.dueThrow("plan(0) of an empty start belief", state, () -> x.plan(0));
        checks.dueThrow("plan(5) of an empty start belief", ARGUMENT, () -> x.plan(5));
        checks.due("the plan stays then too", Checks.plan(x), plan);
    }
}
