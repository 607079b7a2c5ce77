import java.util.function.Consumer;
import java.util.function.Supplier;

/** Counts and prints the calls whose answers are not as due. */
final class Checks {
    private int wrong;
    private int seen;
    private int sentences;
    private String sentence = "";

    /**
     * A test of one sentence of the document: what is wrong in it is told with the sentence, and an
     * exception that nobody waited for ends this test alone.
     */
    void sentence(String words, Runnable test) {
        sentences++;
        sentence = words;
        try {
            test.run();
        } catch (RuntimeException thrown) {
            tell("a call that must not throw", thrown.toString(), "an answer");
        }
        sentence = "";
    }

    void due(String call, long got, long want) {
        seen++;
        if (got != want) {
            tell(call, String.valueOf(got), String.valueOf(want));
        }
    }

    void due(String call, boolean got, boolean want) {
        seen++;
        if (got != want) {
            tell(call, String.valueOf(got), String.valueOf(want));
        }
    }

    void due(String call, String got, String want) {
        seen++;
        if (!got.equals(want)) {
            tell(call, got, want);
        }
    }

    /** The exception must be of the very class: one that a library call threw by itself is wrong. */
    void dueThrow(String call, Class<? extends RuntimeException> want, Runnable run) {
        String got = "nothing";
        try {
            run.run();
        } catch (RuntimeException thrown) {
            got = thrown.getClass().getName();
        }
        due(call + " throws", got, want.getName());
    }

    /** A call that is refused throws, and whatever can be seen behind it is as without the call. */
    void refused(String call, Class<? extends RuntimeException> want, Supplier<HiddenFacts> scene,
            Consumer<HiddenFacts> run) {
        HiddenFacts x = scene.get();
        dueThrow(call, want, () -> run.accept(x));
        due("what is shown behind " + call, Portrait.of(x), Portrait.of(scene.get()));
    }

    /**
     * Numbers out of low .. high: the first ones on both sides, and others that come back into the
     * range when some of their bits are lost.
     */
    static int[] outOf(int low, int high) {
        int[] away = {1, 2, 8, 16, 32, 256, 65536, 1 << 30};
        int[] out = new int[2 * away.length + 4];
        for (int k = 0; k < away.length; k++) {
            out[2 * k] = low - away[k];
            out[2 * k + 1] = high + away[k];
        }
        out[2 * away.length] = Integer.MIN_VALUE;
        out[2 * away.length + 1] = Integer.MAX_VALUE;
        out[2 * away.length + 2] = Integer.MIN_VALUE + high;
        out[2 * away.length + 3] = Integer.MAX_VALUE - high;
        return out;
    }

    /** What a call answers, or the name of what it throws. */
    static String answer(Supplier<Object> call) {
        try {
            return String.valueOf(call.get());
        } catch (RuntimeException thrown) {
            return thrown.getClass().getSimpleName();
        }
    }

    /** The three cells of each node, one text for the whole plan. */
    static String plan(HiddenFacts x) {
        StringBuilder text = new StringBuilder();
        for (int i = 0; i < x.nodes(); i++) {
            text.append(i == 0 ? "" : " ").append(x.node(i, 0)).append('/');
            text.append(x.node(i, 1)).append('/').append(x.node(i, 2));
        }
        return text.toString();
    }

    /** The states behind the actions of the latest carrying out, one text. */
    static String trace(HiddenFacts x) {
        StringBuilder text = new StringBuilder();
        for (int k = 0; k < x.made(); k++) {
            text.append(k == 0 ? "" : " ").append(x.trace(k));
        }
        return text.toString();
    }

    void end() {
        String of = sentences == 0 ? "" : " of " + sentences + " sentences";
        System.out.println(wrong == 0 ? seen + " answers" + of + " are as due" : wrong + " answers are not as due");
        if (wrong != 0) {
            System.exit(1);
        }
    }

    private void tell(String call, String got, String want) {
        wrong++;
        String where = sentence.isEmpty() ? "" : "[" + sentence + "] ";
        System.out.println(where + call + " answered " + got + ", due is " + want);
    }
}
