import java.util.NoSuchElementException;
import java.util.function.Supplier;

/** Promises 1 and 2, sentence by sentence: a new object, clear. */
public final class NewObjectEdgesTest {
    private static final Class<IndexOutOfBoundsException> INDEX = IndexOutOfBoundsException.class;
    private static final Class<IllegalStateException> STATE = IllegalStateException.class;
    private static final Class<NoSuchElementException> ELEMENT = NoSuchElementException.class;
    private static final Checks checks = new Checks();

    public static void main(String[] args) {
        checks.sentence("1: No actions", NewObjectEdgesTest::noActions);
        checks.sentence("1: no clauses", NewObjectEdgesTest::noClauses);
        checks.sentence("1: a goal that always holds", NewObjectEdgesTest::goalAlwaysHolds);
        checks.sentence("1: no plan", () -> noPlan(new HiddenFacts()));
        checks.sentence("1: no hidden state", () -> nothingHidden(new HiddenFacts()));
        checks.sentence("1: A new object", NewObjectEdgesTest::nothingIsShared);
        checks.sentence("2: All as at first", NewObjectEdgesTest::allAsAtFirst);
        checks.sentence("2: no plan", () -> noPlan(cleared(Scenes::busy)));
        checks.sentence("2: nothing hidden", () -> nothingHidden(cleared(Scenes::busy)));
        checks.sentence("2: or made", NewObjectEdgesTest::nothingMade);
        checks.sentence("2: how many actions there were", NewObjectEdgesTest::howManyActions);
        checks.end();
    }

    private static HiddenFacts cleared(Supplier<HiddenFacts> scene) {
        HiddenFacts x = scene.get();
        x.clear();
        return x;
    }

    private static void noActions() {
        HiddenFacts x = new HiddenFacts();
        for (int a = 0; a < 8; a++) {
            int number = a;
            checks.dueThrow("behind(" + a + ", 0)", ELEMENT, () -> x.behind(number, 0));
            checks.dueThrow("behind(" + a + ", 65535)", ELEMENT, () -> x.behind(number, 65535));
            checks.dueThrow("effect(" + a + ", ..)", ELEMENT, () -> x.effect(number, 0, true, 0, 0));
        }
        checks.due("clear()", x.clear(), 0);
        for (int a = 0; a < 8; a++) {
            checks.due("action(" + a + ", ..)", x.action(a, 0, 0, -1), false);
        }
    }

    private static void noClauses() {
        HiddenFacts x = new HiddenFacts();
        checks.due("start()", x.start(), 65535);
        checks.due("the first clause", x.clause(15, 15), 1);
    }

    private static void goalAlwaysHolds() {
        HiddenFacts x = new HiddenFacts();
        for (int s = 0; s < 16; s++) {
            checks.due("least of state " + s, x.least(1 << s, 0), 0);
        }
        checks.due("least(65535, 0)", x.least(65535, 0), 0);
        checks.due("plan(0)", x.plan(0), 0);
        for (int s = 0; s < 16; s++) {
            x.hide(s);
            checks.due("execute() from " + s, x.execute(), true);
        }
    }

    private static void noPlan(HiddenFacts x) {
        checks.due("nodes()", x.nodes(), 0);
        checks.dueThrow("node(0, 0)", INDEX, () -> x.node(0, 0));
        x.action(0, 0, 0, -1);
        checks.dueThrow("edit(0, 0)", INDEX, () -> x.edit(0, 0));
        checks.dueThrow("right()", STATE, x::right);
        x.hide(0);
        checks.dueThrow("execute() with a hidden state", STATE, x::execute);
    }

    private static void nothingHidden(HiddenFacts x) {
        x.plan(0);
        checks.dueThrow("execute() with a plan", STATE, x::execute);
        x.hide(0);
        checks.due("execute() with a hidden state", x.execute(), true);
    }

    private static void nothingIsShared() {
        HiddenFacts x = new HiddenFacts();
        String alone = Portrait.of(new HiddenFacts());
        Scenes.busy();
        Scenes.full();
        checks.due("a new object while others are used", Portrait.of(x), alone);
        HiddenFacts y = Scenes.busy();
        String busy = Portrait.of(Scenes.busy());
        new HiddenFacts().clear();
        checks.due("an object while others are made and cleared", Portrait.of(y), busy);
    }

    private static void allAsAtFirst() {
        String first = Portrait.of(new HiddenFacts());
        checks.due("a new object cleared", Portrait.of(cleared(HiddenFacts::new)), first);
        checks.due("some of everything cleared", Portrait.of(cleared(Scenes::busy)), first);
        checks.due("all that there can be cleared", Portrait.of(cleared(Scenes::full)), first);
        checks.due("cleared twice", Portrait.of(cleared(() -> cleared(Scenes::busy))), first);
        HiddenFacts x = cleared(Scenes::full);
        checks.due("start()", x.start(), 65535);
        for (int c = 1; c <= 6; c++) {
            checks.due("clause " + c + " behind clear", x.clause(15, 15), c);
        }
        for (int a = 0; a < 8; a++) {
            checks.due("action(" + a + ", ..) behind clear", x.action(a, 0, 0, -1), false);
            checks.due("behind(" + a + ", 65535): no old effects", x.behind(a, 65535), 65535);
            for (int e = 1; e <= 4; e++) {
                checks.due("effect " + e + " of action " + a, x.effect(a, 0, true, 0, 0), e);
            }
        }
        checks.due("the goal always holds", x.least(65535, 0), 0);
        checks.due("no old fact is sensed", x.twins(), 1);
    }

    private static void nothingMade() {
        HiddenFacts busy = Scenes.busy();
        checks.due("made() before", busy.made(), 3);
        HiddenFacts x = cleared(Scenes::busy);
        checks.due("made()", x.made(), 0);
        for (int k = 0; k < 4; k++) {
            int number = k;
            checks.dueThrow("trace(" + k + ")", INDEX, () -> x.trace(number));
        }
    }

    private static void howManyActions() {
        checks.due("clear() of a new object", new HiddenFacts().clear(), 0);
        for (int n = 1; n <= 8; n++) {
            HiddenFacts low = new HiddenFacts();
            HiddenFacts high = new HiddenFacts();
            for (int a = 0; a < n; a++) {
                low.action(a, 0, 0, -1);
                high.action(7 - a, 15, 15, 3);
            }
            checks.due("clear() of the lowest " + n, low.clear(), n);
            checks.due("clear() again", low.clear(), 0);
            checks.due("clear() of the highest " + n, high.clear(), n);
        }
        HiddenFacts x = new HiddenFacts();
        x.action(3, 0, 0, -1);
        x.action(3, 1, 1, 0);
        x.effect(3, 0, true, 0, 0);
        checks.dueThrow("action(8, ..)", INDEX, () -> x.action(8, 0, 0, -1));
        checks.due("clear(): a replaced one counts once, a refused one not at all", x.clear(), 1);
    }
}
