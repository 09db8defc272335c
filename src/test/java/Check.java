import java.util.HashSet;
import java.util.List;
import java.util.Set;
import java.util.function.Function;
import java.util.function.Supplier;

/** Runs tests, compares answers with what is due, and ends a test program with 1 if a test failed. */
final class Check {
    static final Class<IllegalArgumentException> ARGUMENT = IllegalArgumentException.class;
    static final Class<IllegalStateException> STATE = IllegalStateException.class;
    static final Class<IndexOutOfBoundsException> INDEX = IndexOutOfBoundsException.class;

    /** Calls that may come behind another one: the first one changes nothing, the others show what is kept unseen. */
    private static final List<Function<GearBench, Number>> NEXT = List.of(
            x -> x.count(0), x -> x.addPeg(1, 59), x -> x.putGear(0, 1, 1), x -> x.putRing(1, 0, 40),
            x -> x.move(0, 59, 1), x -> x.flip(1), x -> x.drive(1), x -> x.goal(0, 1, 1), x -> x.set(2),
            x -> x.ifPut(0, 1, 1, 0), x -> x.ifPut(0, 1, 1, 2), x -> x.clearBuffer(), x -> x.undo(),
            Check::buildAgain);

    /** What a test does. */
    interface Body {
        void run() throws Exception;
    }

    private final String program;
    private final Set<String> names = new HashSet<>();
    private String test = "outside of a test";
    private int passed = 0;
    private int failed = 0;
    private int held = 0;
    private int differed = 0;

    Check(String program) {
        this.program = program;
    }

    // ---- tests, each under the promise or term that it holds

    void test(String name, Body body) {
        int heldBefore = held;
        int differedBefore = differed;
        test = name;
        tell(names.add(name), "another test has this name");
        try {
            body.run();
        } catch (Exception thrown) {
            tell(false, "the test ended by " + thrown);
        }
        tell(held + differed > heldBefore + differedBefore + 1, "the test compared nothing");
        if (differed == differedBefore) {
            passed++;
        } else {
            failed++;
        }
        test = "outside of a test";
    }

    /** The call answers this. */
    void answers(String name, long due, Supplier<Number> call) {
        test(name, () -> equal("the call", call.get().longValue(), due));
    }

    /** The call throws just this exception, and leaves all as it was, the saved states and the buffer too. */
    void refuses(String name, Class<? extends RuntimeException> due, Supplier<GearBench> recipe,
            Function<GearBench, Number> call) {
        test(name, () -> {
            throwsJust(due, () -> call.apply(recipe.get()));
            leaveAlike("the refused call", recipe, x -> answerOf(x, call));
        });
    }

    /** The call throws nothing, and leaves all as it was, the saved states and the buffer too. */
    void changesNothing(String name, Supplier<GearBench> recipe, Function<GearBench, Number> call) {
        test(name, () -> {
            call.apply(recipe.get());
            leaveAlike("the call", recipe, x -> answerOf(x, call));
        });
    }

    /** The call saves the state from before it, on top of those that there are, and undo() brings it back. */
    void isUndoable(String name, Supplier<GearBench> recipe, Function<GearBench, Number> call) {
        test(name, () -> {
            GearBench x = recipe.get();
            int saved = x.count(10);
            call.apply(x);
            equal("saved states", x.count(10), saved + 1);
            equal("undo()", x.undo(), saved);
            same("what undo() brought back", everything(x), everything(recipe.get()));
            leaveAlike("the call and undo()", recipe, y -> answerOf(y, call) + y.undo());
        });
    }

    /** Whatever is called next answers, and leaves, as if those calls had not been. */
    private void leaveAlike(String what, Supplier<GearBench> recipe, Function<GearBench, String> calls) {
        for (int next = 0; next < NEXT.size(); next++) {
            GearBench x = recipe.get();
            calls.apply(x);
            GearBench y = recipe.get();
            String answer = answerOf(x, NEXT.get(next));
            same("behind " + what + " call " + next, answer, answerOf(y, NEXT.get(next)));
            same("what call " + next + " left behind " + what, everything(x), everything(y));
        }
    }

    private static String answerOf(GearBench x, Function<GearBench, Number> call) {
        try {
            return call.apply(x).toString();
        } catch (RuntimeException thrown) {
            return thrown.getClass().getSimpleName();
        }
    }

    void end() {
        if (differed > 0 && failed == 0) {
            failed++;
        }
        System.out.println(program + ": " + held + " checks held, " + differed + " did not");
        System.out.println(program + ": " + passed + " passed, " + failed + " failed");
        if (failed > 0 || passed == 0) {
            System.exit(1);
        }
    }

    // ---- what a test is made of

    void equal(String what, long got, long due) {
        tell(got == due, what + " answered " + got + ", due is " + due);
    }

    void equal(String what, double got, double due) {
        tell(Double.compare(got, due) == 0, what + " answered " + got + ", due is " + due);
    }

    void same(String what, String got, String due) {
        tell(got.equals(due), what + " is\n  " + got + ", due is\n  " + due);
    }

    /** The call must throw just this exception, and leave the digest of the bench as it was. */
    void refused(String what, GearBench bench, Class<? extends RuntimeException> due, Supplier<Number> call) {
        long before = bench.digest();
        throwsJust(what, due, call);
        equal(what + " and then digest()", bench.digest(), before);
    }

    void throwsJust(Class<? extends RuntimeException> due, Supplier<Number> call) {
        throwsJust("the call", due, call);
    }

    private void throwsJust(String what, Class<? extends RuntimeException> due, Supplier<Number> call) {
        String got;
        try {
            got = "nothing, but answered " + call.get();
        } catch (RuntimeException thrown) {
            got = thrown.getClass() == due ? null : thrown.getClass().getName();
        }
        tell(got == null, what + " threw " + got + ", due is " + due.getName());
    }

    private void tell(boolean holds, String otherwise) {
        if (holds) {
            held++;
        } else {
            differed++;
            System.out.println(program + ", " + test + ": " + otherwise);
        }
    }

    // ---- benches

    /** Appends all characters of a text. */
    static void type(GearBench bench, String text) {
        for (int i = 0; i < text.length(); i++) {
            bench.append(text.charAt(i));
        }
    }

    /** A new bench that has been built from texts of at most 60 characters. */
    static GearBench built(String... texts) {
        GearBench bench = new GearBench();
        for (String text : texts) {
            type(bench, text);
            int orders = text.split(";").length;
            int done = bench.build();
            if (done != orders) {
                throw new IllegalStateException("of " + text + " only " + done + " orders were done");
            }
        }
        return bench;
    }

    private static Number buildAgain(GearBench x) {
        x.clearBuffer();
        type(x, "d1;p58,2");
        return x.build();
    }

    /** All that a bench tells, now and in each of its saved states; the bench is undone by that. */
    static String everything(GearBench x) {
        StringBuilder all = new StringBuilder();
        all.append(x.firstError()).append(' ').append(x.digest());
        for (int left = x.count(10); left > 0; left--) {
            x.undo();
            all.append(' ').append(x.digest());
        }
        return all.toString();
    }
}
