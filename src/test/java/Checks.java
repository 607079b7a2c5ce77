/** Counts and prints the calls whose answers are not as due. */
final class Checks {
    private int wrong;
    private int seen;

    void due(String call, long got, long want) {
        seen++;
        if (got != want) {
            tell(call, String.valueOf(got), String.valueOf(want));
        }
    }

    void due(String call, boolean got, boolean want) {
        seen++;
        if (got != want) {
            tell(call, String.valueOf(got), String.valueOf(want));
        }
    }

    void due(String call, String got, String want) {
        seen++;
        if (!got.equals(want)) {
            tell(call, got, want);
        }
    }

    /** The exception must be of the very class: one that a library call threw by itself is wrong. */
    void dueThrow(String call, Class<? extends RuntimeException> want, Runnable run) {
        String got = "nothing";
        try {
            run.run();
        } catch (RuntimeException thrown) {
            got = thrown.getClass().getName();
        }
        due(call + " throws", got, want.getName());
    }

    /** The three cells of each node, one text for the whole plan. */
    static String plan(HiddenFacts x) {
        StringBuilder text = new StringBuilder();
        for (int i = 0; i < x.nodes(); i++) {
            text.append(i == 0 ? "" : " ").append(x.node(i, 0)).append('/');
            text.append(x.node(i, 1)).append('/').append(x.node(i, 2));
        }
        return text.toString();
    }

    void end() {
        System.out.println(wrong == 0 ? seen + " answers are as due" : wrong + " answers are not as due");
        if (wrong != 0) {
            System.exit(1);
        }
    }

    private void tell(String call, String got, String want) {
        wrong++;
        System.out.println(call + " answered " + got + ", due is " + want);
    }
}
