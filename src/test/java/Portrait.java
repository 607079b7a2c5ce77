import java.util.function.Supplier;

/**
 * All that later calls can show of an object, as one text. The object is used up by it: some of what
 * it holds (how many effects and clauses it still takes, which state it hides) is shown by calls that
 * change it. These are at most some 350 calls, so that the scenes stay within the object's 512.
 */
final class Portrait {
    private final StringBuilder text = new StringBuilder();
    private final HiddenFacts x;

    private Portrait(HiddenFacts x) {
        this.x = x;
    }

    static String of(HiddenFacts x) {
        Portrait portrait = new Portrait(x);
        portrait.plan();
        portrait.actions();
        portrait.carryingOut();
        portrait.room();
        portrait.hiddenState();
        portrait.add("clear", x::clear);
        return portrait.text.toString();
    }

    private void plan() {
        add("start", x::start);
        add("plan", () -> Checks.plan(x));
        add("right", x::right);
        add("made", x::made);
        add("trace", () -> Checks.trace(x));
        add("twins", x::twins);
        for (int s = 0; s < 16; s++) {
            int belief = 1 << s;
            add("least", () -> x.least(belief, 0));
        }
    }

    private void actions() {
        for (int a = 0; a < 8; a++) {
            int number = a;
            for (int s = 0; s < 16; s++) {
                int belief = 1 << s;
                add("behind", () -> x.behind(number, belief));
            }
        }
    }

    /** With each action in the first node too: what it senses decides where it goes on. */
    private void carryingOut() {
        add("execute", x::execute);
        add("trace", () -> Checks.trace(x));
        for (int a = 0; a < 8; a++) {
            int number = a;
            add("edit", () -> x.edit(0, number));
            add("right", x::right);
            add("execute", x::execute);
            add("made", x::made);
        }
    }

    private void room() {
        for (int a = 0; a < 8; a++) {
            int number = a;
            add("effect", () -> x.effect(number, 0, true, 0, 0));
        }
        add("clause", () -> x.clause(15, 15));
    }

    private void hiddenState() {
        add("goal", () -> x.goal(0, 0));
        add("plan", () -> x.plan(0));
        for (int s = 0; s < 16; s++) {
            x.goal(15, s);
            add("execute", x::execute);
        }
    }

    private void add(String name, Supplier<Object> call) {
        text.append(' ').append(name).append(' ').append(Checks.answer(call));
    }
}
