import java.util.function.Supplier;

/** Compares answers with what is due, and ends a test program with 1 if one differed. */
final class Check {
    private final String program;
    private int passed = 0;
    private int failed = 0;

    Check(String program) {
        this.program = program;
    }

    void equal(String what, long got, long due) {
        tell(got == due, what + " answered " + got + ", due is " + due);
    }

    void equal(String what, double got, double due) {
        tell(Double.compare(got, due) == 0, what + " answered " + got + ", due is " + due);
    }

    /** The call must throw just this exception, and leave the digest of the bench as it was. */
    void refused(String what, GearBench bench, Class<? extends RuntimeException> due, Supplier<Number> call) {
        long before = bench.digest();
        String got = "nothing";
        try {
            got = "nothing, but answered " + call.get();
        } catch (RuntimeException thrown) {
            got = thrown.getClass() == due ? null : thrown.getClass().getName();
        }
        tell(got == null, what + " threw " + got + ", due is " + due.getName());
        equal(what + " and then digest()", bench.digest(), before);
    }

    void end() {
        System.out.println(program + ": " + passed + " checks held, " + failed + " did not");
        if (failed > 0 || passed == 0) {
            System.exit(1);
        }
    }

    private void tell(boolean holds, String otherwise) {
        if (holds) {
            passed++;
        } else {
            failed++;
            System.out.println(program + ": " + otherwise);
        }
    }

    /** Appends all characters of a text. */
    static void type(GearBench bench, String text) {
        for (int i = 0; i < text.length(); i++) {
            bench.append(text.charAt(i));
        }
    }

    /** A new bench that has been built from texts of at most 60 characters. */
    static GearBench built(String... texts) {
        GearBench bench = new GearBench();
        for (String text : texts) {
            type(bench, text);
            int orders = text.split(";").length;
            int done = bench.build();
            if (done != orders) {
                throw new IllegalStateException("of " + text + " only " + done + " orders were done");
            }
        }
        return bench;
    }
}
