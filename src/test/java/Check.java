import java.util.function.Function;
import java.util.function.Supplier;

/** Runs tests, compares answers with what is due, and ends a test program with 1 if a test failed. */
final class Check {
    static final Class<IllegalArgumentException> ARGUMENT = IllegalArgumentException.class;
    static final Class<IllegalStateException> STATE = IllegalStateException.class;
    static final Class<IndexOutOfBoundsException> INDEX = IndexOutOfBoundsException.class;

    /** What a test does. */
    interface Body {
        void run() throws Exception;
    }

    private final String program;
    private String test = "outside of a test";
    private int passed = 0;
    private int failed = 0;
    private int held = 0;
    private int differed = 0;

    Check(String program) {
        this.program = program;
    }

    // ---- tests, each under the promise or term that it holds

    void test(String name, Body body) {
        int heldBefore = held;
        int differedBefore = differed;
        test = name;
        try {
            body.run();
        } catch (Exception thrown) {
            tell(false, "the test ended by " + thrown);
        }
        tell(held + differed > heldBefore + differedBefore, "the test compared nothing");
        if (differed == differedBefore) {
            passed++;
        } else {
            failed++;
        }
        test = "outside of a test";
    }

    /** The call answers this. */
    void answers(String name, long due, Supplier<Number> call) {
        test(name, () -> equal("the call", call.get().longValue(), due));
    }

    /** The call throws just this exception, and leaves all as it was, the saved states and the buffer too. */
    void refuses(String name, Class<? extends RuntimeException> due, Supplier<GearBench> recipe,
            Function<GearBench, Number> call) {
        test(name, () -> {
            GearBench x = recipe.get();
            throwsJust(due, () -> call.apply(x));
            same("what the refused call left", everything(x), everything(recipe.get()));
        });
    }

    /** The call throws nothing, and leaves all as it was, the saved states and the buffer too. */
    void changesNothing(String name, Supplier<GearBench> recipe, Function<GearBench, Number> call) {
        test(name, () -> {
            GearBench x = recipe.get();
            call.apply(x);
            same("what the call left", everything(x), everything(recipe.get()));
        });
    }

    /** The call saves the state from before it, on top of those that there are, and undo() brings it back. */
    void isUndoable(String name, Supplier<GearBench> recipe, Function<GearBench, Number> call) {
        test(name, () -> {
            GearBench x = recipe.get();
            int saved = x.count(10);
            call.apply(x);
            equal("saved states", x.count(10), saved + 1);
            equal("undo()", x.undo(), saved);
            same("what undo() brought back", everything(x), everything(recipe.get()));
        });
    }

    void end() {
        if (differed > 0 && failed == 0) {
            failed++;
        }
        System.out.println(program + ": " + held + " checks held, " + differed + " did not");
        System.out.println(program + ": " + passed + " passed, " + failed + " failed");
        if (failed > 0 || passed == 0) {
            System.exit(1);
        }
    }

    // ---- what a test is made of

    void equal(String what, long got, long due) {
        tell(got == due, what + " answered " + got + ", due is " + due);
    }

    void equal(String what, double got, double due) {
        tell(Double.compare(got, due) == 0, what + " answered " + got + ", due is " + due);
    }

    void same(String what, String got, String due) {
        tell(got.equals(due), what + " is\n  " + got + ", due is\n  " + due);
    }

    /** The call must throw just this exception, and leave the digest of the bench as it was. */
    void refused(String what, GearBench bench, Class<? extends RuntimeException> due, Supplier<Number> call) {
        long before = bench.digest();
        throwsJust(what, due, call);
        equal(what + " and then digest()", bench.digest(), before);
    }

    void throwsJust(Class<? extends RuntimeException> due, Supplier<Number> call) {
        throwsJust("the call", due, call);
    }

    private void throwsJust(String what, Class<? extends RuntimeException> due, Supplier<Number> call) {
        String got;
        try {
            got = "nothing, but answered " + call.get();
        } catch (RuntimeException thrown) {
            got = thrown.getClass() == due ? null : thrown.getClass().getName();
        }
        tell(got == null, what + " threw " + got + ", due is " + due.getName());
    }

    private void tell(boolean holds, String otherwise) {
        if (holds) {
            held++;
        } else {
            differed++;
            System.out.println(program + ", " + test + ": " + otherwise);
        }
    }

    // ---- benches

    /** Appends all characters of a text. */
    static void type(GearBench bench, String text) {
        for (int i = 0; i < text.length(); i++) {
            bench.append(text.charAt(i));
        }
    }

    /** A new bench that has been built from texts of at most 60 characters. */
    static GearBench built(String... texts) {
        GearBench bench = new GearBench();
        for (String text : texts) {
            type(bench, text);
            int orders = text.split(";").length;
            int done = bench.build();
            if (done != orders) {
                throw new IllegalStateException("of " + text + " only " + done + " orders were done");
            }
        }
        return bench;
    }

    /** All that a bench tells, now and in each of its saved states; the bench is undone by that. */
    static String everything(GearBench x) {
        StringBuilder all = new StringBuilder();
        all.append(x.firstError()).append(' ').append(x.digest());
        for (int left = x.count(10); left > 0; left--) {
            x.undo();
            all.append(' ').append(x.digest());
        }
        return all.toString();
    }
}
