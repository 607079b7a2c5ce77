/** What the document says for all promises, sentence by sentence: the 512 calls, the terms, which exception. */
public final class TermsEdgesTest {
    private static final String INDEX = "IndexOutOfBoundsException";
    private static final String ARGUMENT = "IllegalArgumentException";
    private static final String STATE = "IllegalStateException";
    private static final String ELEMENT = "NoSuchElementException";
    private static final String UNSUPPORTED = "UnsupportedOperationException";
    private static final int[] BITS = {-1, 0, 15, 16};
    private static final Checks checks = new Checks();

    public static void main(String[] args) {
        checks.sentence("at most 512 calls after it has been made", TermsEdgesTest::lastCall);
        checks.sentence("Terms: bit f of which is set when fact f is true", TermsEdgesTest::statesAreBits);
        checks.sentence("Terms: those effects whose demands hold in the state before", TermsEdgesTest::stateBefore);
        checks.sentence("Terms: make their facts true or false, all at once", TermsEdgesTest::allAtOnce);
        checks.sentence("Terms: of two that make the same fact the later one counts", TermsEdgesTest::laterCounts);
        checks.sentence("Terms: at most four EFFECTS", TermsEdgesTest::fourEffects);
        checks.sentence("Terms: usable, when its condition holds in all of its states", TermsEdgesTest::usableInAll);
        checks.sentence("Terms: false (0), true (1); without sensing all are part 0", TermsEdgesTest::parts);
        checks.sentence("Terms: NONE = -1", () -> checks.due("NONE", HiddenFacts.NONE, -1));
        checks.sentence("the one that is listed first: action", TermsEdgesTest::firstOfAction);
        checks.sentence("the one that is listed first: effect", TermsEdgesTest::firstOfEffect);
        checks.sentence("the one that is listed first: clause", TermsEdgesTest::firstOfClause);
        checks.sentence("the one that is listed first: behind", TermsEdgesTest::firstOfBehind);
        checks.sentence("the one that is listed first: least", TermsEdgesTest::firstOfLeast);
        checks.sentence("the one that is listed first: plan", TermsEdgesTest::firstOfPlan);
        checks.sentence("the one that is listed first: edit", TermsEdgesTest::firstOfEdit);
        checks.end();
    }

    /** Most of the 512 are plans, which take the most room; the last ones show that all still stands. */
    private static void lastCall() {
        HiddenFacts x = Scenes.full();
        int setUp = 1 + 6 + 8 + 32 + 3;
        for (int call = setUp; call < 512 - 5; call++) {
            checks.due("plan(4)", x.plan(4), 4);
        }
        checks.due("call 508, nodes()", x.nodes(), 16);
        checks.due("call 509, right()", x.right(), true);
        checks.due("call 510, execute()", x.execute(), true);
        checks.due("call 511, trace(3)", x.trace(3), 13);
        checks.due("call 512, clear()", x.clear(), 8);
    }

    private static void statesAreBits() {
        for (int f = 0; f < 4; f++) {
            HiddenFacts x = new HiddenFacts();
            x.clause(1 << f, 0);
            x.action(0, 1 << f, 1 << f, -1);
            int states = 0;
            for (int s = 0; s < 16; s++) {
                states |= (s >> f & 1) != 0 ? 1 << s : 0;
            }
            checks.due("start(), fact " + f + " is true", x.start(), states);
            checks.due("behind in all of these", x.behind(0, states), states);
        }
    }

    /** A demand with no bits in its mask always holds, one with all of them in one state. */
    private static void stateBefore() {
        for (int demand = 0; demand < 16; demand++) {
            HiddenFacts x = new HiddenFacts();
            x.action(0, 0, 0, -1);
            x.effect(0, 0, true, 15, demand);
            x.action(1, 0, 0, -1);
            x.effect(1, 0, true, 0, demand);
            x.action(2, 0, 0, -1);
            x.effect(2, 0, true, 8, demand);
            for (int s = 0; s < 16; s++) {
                checks.due("behind " + s + ", in one state", x.behind(0, 1 << s), 1 << (s == demand ? s | 1 : s));
                checks.due("behind " + s + ", in all states", x.behind(1, 1 << s), 1 << (s | 1));
                boolean half = ((s ^ demand) & 8) == 0;
                checks.due("behind " + s + ", in half of them", x.behind(2, 1 << s), 1 << (half ? s | 1 : s));
            }
        }
    }

    /** Facts 0 and 1 change places: neither effect sees what another one has made. */
    private static void allAtOnce() {
        HiddenFacts x = new HiddenFacts();
        x.action(0, 0, 0, -1);
        x.effect(0, 0, true, 3, 2);
        x.effect(0, 1, false, 3, 2);
        x.effect(0, 0, false, 3, 1);
        x.effect(0, 1, true, 3, 1);
        for (int s = 0; s < 16; s++) {
            int swapped = s & 12 | (s & 1) << 1 | (s & 2) >> 1;
            checks.due("behind " + s, x.behind(0, 1 << s), 1 << swapped);
        }
        checks.due("behind all", x.behind(0, 65535), 65535);
    }

    private static void laterCounts() {
        for (int f = 0; f < 4; f++) {
            HiddenFacts x = new HiddenFacts();
            int other = 1 << (f + 1) % 4;
            x.action(0, 0, 0, -1);
            x.effect(0, f, true, 0, 0);
            x.effect(0, f, false, other, other);
            x.action(1, 0, 0, -1);
            x.effect(1, f, false, other, other);
            x.effect(1, f, true, 0, 0);
            for (int s = 0; s < 16; s++) {
                int made = (s & other) != 0 ? s & ~(1 << f) : s | 1 << f;
                checks.due("behind " + s + ", the later one where it holds", x.behind(0, 1 << s), 1 << made);
                checks.due("behind " + s + ", the later one always", x.behind(1, 1 << s), 1 << (s | 1 << f));
            }
            x.effect(0, f, true, 0, 0);
            x.effect(0, f, false, 0, 0);
            checks.due("behind 15, the last of four", x.behind(0, 1 << 15), 1 << (15 & ~(1 << f)));
        }
    }

    private static void fourEffects() {
        for (int s = 0; s < 16; s++) {
            HiddenFacts x = new HiddenFacts();
            x.action(7, 0, 0, -1);
            for (int f = 0; f < 4; f++) {
                x.effect(7, f, (s >> f & 1) != 0, 0, 0);
            }
            checks.due("behind(7, 65535), four effects make state " + s, x.behind(7, 65535), 1 << s);
        }
    }

    private static void usableInAll() {
        for (int s = 0; s < 16; s++) {
            HiddenFacts x = new HiddenFacts();
            x.action(0, 15, s, -1);
            int alone = 1 << s;
            int next = 1 << (s + 1) % 16;
            checks.due("behind in the one state", x.behind(0, alone), alone);
            checks.due("behind with one more", Checks.answer(() -> x.behind(0, alone | next)), UNSUPPORTED);
            checks.due("behind without it", Checks.answer(() -> x.behind(0, next)), UNSUPPORTED);
            checks.due("behind with all", Checks.answer(() -> x.behind(0, 65535)), UNSUPPORTED);
        }
    }

    /** The fact is looked at behind the action, not before it. */
    private static void parts() {
        for (int f = 0; f < 4; f++) {
            HiddenFacts x = new HiddenFacts();
            int other = (f + 1) % 4;
            x.goal(1 << other, 1 << other);
            x.action(0, 0, 0, f);
            x.effect(0, other, true, 0, 0);
            x.plan(1);
            checks.due("both parts", Checks.plan(x), "0/1/1 -1/-1/-1");
            x.effect(0, f, true, 0, 0);
            x.plan(1);
            checks.due("true for all behind it: part 1", Checks.plan(x), "0/-1/1 -1/-1/-1");
            x.effect(0, f, false, 0, 0);
            x.plan(1);
            checks.due("false for all behind it: part 0", Checks.plan(x), "0/1/-1 -1/-1/-1");
            x.action(0, 0, 0, -1);
            x.effect(0, other, true, 0, 0);
            x.plan(1);
            checks.due("without sensing: part 0", Checks.plan(x), "0/1/-1 -1/-1/-1");
        }
    }

    private static boolean noBits(int bits) {
        return bits < 0 || bits > 15;
    }

    private static void firstOfAction() {
        HiddenFacts x = new HiddenFacts();
        x.action(0, 0, 0, 0);
        x.action(7, 0, 0, 0);
        for (int a : new int[] {-1, 0, 7, 8}) {
            for (int mask : BITS) {
                for (int value : BITS) {
                    for (int sense : new int[] {-2, -1, 3, 4}) {
                        boolean wrong = noBits(mask) || noBits(value) || sense < -1 || sense > 3;
                        String due = a < 0 || a > 7 ? INDEX : wrong ? ARGUMENT : "true";
                        checks.due("action(" + a + ", " + mask + ", " + value + ", " + sense + ")",
                                Checks.answer(() -> x.action(a, mask, value, sense)), due);
                    }
                }
            }
        }
    }

    /** Action 0 has room for an effect, action 1 has four, action 7 is not there. */
    private static HiddenFacts someEffects() {
        HiddenFacts x = new HiddenFacts();
        x.action(0, 0, 0, 0);
        x.action(1, 0, 0, 0);
        for (int e = 0; e < 4; e++) {
            x.effect(1, 0, true, 0, 0);
        }
        return x;
    }

    private static void firstOfEffect() {
        for (int a : new int[] {-1, 0, 1, 7, 8}) {
            for (int fact : new int[] {-1, 0, 3, 4}) {
                for (int mask : BITS) {
                    for (int value : BITS) {
                        HiddenFacts x = someEffects();
                        boolean wrong = noBits(mask) || noBits(value) || fact < 0 || fact > 3;
                        String due = a < 0 || a > 7 ? INDEX : a == 7 ? ELEMENT : wrong ? ARGUMENT
                                : a == 1 ? STATE : "1";
                        checks.due("effect(" + a + ", " + fact + ", true, " + mask + ", " + value + ")",
                                Checks.answer(() -> x.effect(a, fact, true, mask, value)), due);
                    }
                }
            }
        }
    }

    private static void firstOfClause() {
        for (int trues : BITS) {
            for (int falses : BITS) {
                HiddenFacts full = Scenes.full();
                boolean wrong = noBits(trues) || noBits(falses);
                String call = "clause(" + trues + ", " + falses + ")";
                checks.due(call + " where there are six", Checks.answer(() -> full.clause(trues, falses)),
                        wrong ? ARGUMENT : STATE);
                HiddenFacts x = new HiddenFacts();
                checks.due(call + " where there is none", Checks.answer(() -> x.clause(trues, falses)),
                        wrong ? ARGUMENT : "1");
            }
        }
    }

    /** Action 2 of this scene is usable in states with fact 0, the actions 6 and 7 are not there. */
    private static void firstOfBehind() {
        for (int a : new int[] {-1, 0, 2, 6, 7, 8}) {
            for (int belief : new int[] {-1, 0, 3, 65535, 65536}) {
                HiddenFacts x = Scenes.busy();
                boolean wrong = belief < 0 || belief > 65535;
                String due = a < 0 || a > 7 ? INDEX : a > 5 ? ELEMENT : wrong ? ARGUMENT
                        : a == 2 && belief != 0 ? UNSUPPORTED : String.valueOf(belief);
                checks.due("behind(" + a + ", " + belief + ")", Checks.answer(() -> x.behind(a, belief)), due);
            }
        }
    }

    private static void firstOfLeast() {
        HiddenFacts x = new HiddenFacts();
        x.goal(15, 15);
        for (int belief : new int[] {-1, 0, 1, 32768, 65535, 65536}) {
            for (int most : new int[] {-1, 0, 4, 5}) {
                boolean wrong = belief < 1 || belief > 65535 || most < 0 || most > 4;
                String due = wrong ? ARGUMENT : belief == 32768 ? "0" : ELEMENT;
                checks.due("least(" + belief + ", " + most + ")", Checks.answer(() -> x.least(belief, most)), due);
            }
        }
    }

    private static void firstOfPlan() {
        for (int most : new int[] {-1, 0, 4, 5}) {
            boolean wrong = most < 0 || most > 4;
            HiddenFacts unsolved = new HiddenFacts();
            unsolved.goal(15, 15);
            checks.due("plan(" + most + ") of what is not solved", Checks.answer(() -> unsolved.plan(most)),
                    wrong ? ARGUMENT : ELEMENT);
            unsolved.clause(0, 0);
            checks.due("plan(" + most + ") of nothing", Checks.answer(() -> unsolved.plan(most)),
                    wrong ? ARGUMENT : STATE);
            HiddenFacts solved = new HiddenFacts();
            checks.due("plan(" + most + ") of what is solved", Checks.answer(() -> solved.plan(most)),
                    wrong ? ARGUMENT : "0");
        }
    }

    /** Node 3 of this plan of six is the leaf, the actions 6 and 7 are not there. */
    private static void firstOfEdit() {
        for (int i : new int[] {-1, 0, 3, 5, 6}) {
            for (int a : new int[] {-1, 0, 5, 6, 7, 8}) {
                HiddenFacts x = Scenes.busy();
                boolean wrong = i < 0 || i > 5 || a < 0 || a > 7;
                String due = wrong ? INDEX : a > 5 ? ELEMENT : i == 3 ? UNSUPPORTED : i == 0 ? "1" : "3";
                checks.due("edit(" + i + ", " + a + ")", Checks.answer(() -> x.edit(i, a)), due);
            }
        }
    }
}
