import java.util.function.Supplier;

/** Long runs of calls, as they come from a fixed row of numbers, against the model; the digest after each change. */
final class ModelTest {
    private static final int RUNS = 700;
    // The document leaves free what an object answers after 512 calls; a step takes at most 100.
    private static final int LAST_STEP_FROM = 412;
    private static final Check CHECK = new Check("ModelTest");
    private static final String[] TOKENS = {"p", "g", "r", "d", ";", ",", ".", "=", "0", "1", "6", "40", "20",
        "61", "05", "d0", "d1;", "g0.0=", "g1.1=5", "r2.0=1", "p1", "p10,10", "p20,10;", "r0.1=39;", "~", "g8.", "p60,60"};

    private long seed = 20261119L;
    private GearBench bench;
    private Model model;
    private int calls = 0;
    private int jams = 0;
    private int solved = 0;
    private int culprits = 0;
    private int overlapping = 0;
    private int longTrains = 0;
    private int idle = 0;
    private int built = 0;

    public static void main(String[] args) {
        CHECK.test("promises 1 to 26: long runs", ModelTest::longRuns);
        CHECK.end();
    }

    private static void longRuns() {
        ModelTest test = new ModelTest();
        for (int run = 0; run < RUNS; run++) {
            test.bench = new GearBench();
            test.model = new Model();
            test.calls = 0;
            while (test.calls <= LAST_STEP_FROM) {
                String where = "run " + run + " call " + test.calls;
                test.change(where);
                test.look(where);
                test.look(where);
                test.look(where);
                test.note();
            }
        }
        test.theRunsCameEverywhere();
    }

    /** Runs that meet no jam, no solution .. would hold nothing of it. */
    private void theRunsCameEverywhere() {
        System.out.println("ModelTest: jams " + jams + ", solved " + solved + ", culprits " + culprits
                + ", overlapping " + overlapping + ", long trains " + longTrains + ", idlers " + idle
                + ", built " + built);
        boolean enough = jams > 200 && solved > 200 && culprits > 100 && overlapping > 200
                && longTrains > 200 && idle > 200 && built > 100;
        CHECK.equal("the runs came everywhere", enough ? 1 : 0, 1);
    }

    private int below(int bound) {
        seed = seed * 6364136223846793005L + 1442695040888963407L;
        return (int) ((seed >>> 33) % bound);
    }

    private int near(int bound) {
        return below(12) == 0 ? below(bound + 4) - 2 : below(bound);
    }

    private int somePeg() {
        int pegs = model.now.pegs.size();
        return below(20) == 0 || pegs == 0 ? below(11) - 1 : below(pegs);
    }

    private void same(String what, Supplier<Number> program, Supplier<Number> due) {
        calls++;
        String answer = answerOf(program);
        String answerDue = answerOf(due);
        CHECK.equal(what + " answered " + answer + ", due is " + answerDue, answer.equals(answerDue) ? 1 : 0, 1);
    }

    private static String answerOf(Supplier<Number> call) {
        try {
            Number answer = call.get();
            return answer instanceof Double ? answer.toString() : Long.toString(answer.longValue());
        } catch (Model.Refused refused) {
            return refused.name;
        } catch (RuntimeException thrown) {
            return thrown.getClass().getSimpleName();
        }
    }

    private void change(String where) {
        switch (below(16)) {
            case 0: case 1: case 2: addPeg(where); break;
            case 3: put(where, somePeg(), below(30) == 0 ? 2 : below(2), near(21), 1); break;
            case 4: case 5: case 6: case 7: putMeshing(where); break;
            case 8: put(where, somePeg(), near(2), below(12) == 0 ? below(50) : 6 + below(35), 2); break;
            case 9: move(where); break;
            case 10: flipOrDrive(where); break;
            case 11: case 12: goal(where); break;
            case 13: play(where); break;
            case 14: text(where); break;
            default: undo(where); break;
        }
        same(where + " digest()", () -> bench.digest(), () -> model.digest());
    }

    /** Places on a rough grid, so that distances are often whole. */
    private int place() {
        return below(15) == 0 ? near(61) : 10 + 5 * below(6);
    }

    private void addPeg(String where) {
        int x = place();
        int y = place();
        same(where + " addPeg", () -> bench.addPeg(x, y), () -> model.addPeg(x, y));
        putMeshing(where, model.now.pegs.size() - 1);
    }

    private void put(String where, int peg, int level, int teeth, int kind) {
        if (kind == 1) {
            same(where + " putGear", () -> bench.putGear(peg, level, teeth), () -> model.put(peg, level, 1, teeth));
        } else {
            same(where + " putRing", () -> bench.putRing(peg, level, teeth), () -> model.put(peg, level, 2, teeth));
        }
    }

    /** Puts what meshes with something on another peg. */
    private void putMeshing(String where) {
        if (model.now.pegs.isEmpty()) {
            addPeg(where);
        }
        putMeshing(where, below(Math.max(1, model.now.pegs.size())));
    }

    private void putMeshing(String where, int peg) {
        int pegs = model.now.pegs.size();
        if (pegs < 2) {
            return;
        }
        int other = (peg + 1 + below(pegs - 1)) % pegs;
        int level = below(2);
        int kind = model.now.pegs.get(other)[2 + level];
        int teeth = model.now.pegs.get(other)[4 + level];
        int distance = (int) Math.round(Model.root(model.now, peg, other));
        if (kind == 2) {
            put(where, peg, level, teeth - distance, 1);
        } else if (below(4) == 0) {
            put(where, peg, level, teeth + distance, 2);
        } else {
            put(where, peg, level, distance - teeth, 1);
        }
    }

    private void move(String where) {
        int peg = somePeg();
        int x = place();
        int y = place();
        same(where + " move", () -> bench.move(peg, x, y), () -> model.move(peg, x, y));
    }

    private void flipOrDrive(String where) {
        int peg = somePeg();
        if (below(2) == 0) {
            same(where + " flip", () -> bench.flip(peg), () -> model.flip(peg));
        } else {
            same(where + " drive", () -> bench.drive(peg), () -> model.drive(peg));
        }
    }

    /** Half of the goals are speeds that one gear more would bring. */
    private void goal(String where) {
        int peg = somePeg();
        int pegs = model.now.pegs.size();
        long numerator = near(30) - 15;
        long denominator = near(9);
        if (pegs > 0 && below(2) == 0) {
            Model.State with = model.now.copy();
            int[] there = with.pegs.get(below(pegs));
            int level = below(2);
            there[4 + level] = below(21);
            there[2 + level] = there[4 + level] == 0 ? 0 : 1;
            long[] speed = new Model.Turning(with).speeds[Math.floorMod(peg, pegs)];
            numerator = speed[0];
            denominator = speed[1];
        }
        int top = (int) numerator;
        int bottom = (int) denominator;
        same(where + " goal", () -> bench.goal(peg, top, bottom), () -> model.goal(peg, top, bottom));
    }

    private void play(String where) {
        int play = near(4);
        same(where + " set", () -> bench.set(play), () -> model.set(play));
    }

    private void undo(String where) {
        for (int times = below(8) == 0 ? 7 : below(2); times >= 0; times--) {
            same(where + " undo", () -> bench.undo(), () -> model.undo());
        }
    }

    private void text(String where) {
        int tokens = below(7);
        for (int i = 0; i < tokens; i++) {
            append(where, below(10) == 0 ? TOKENS[below(TOKENS.length)] : order() + ";");
        }
        if (below(8) > 0) {
            append(where, order());
        }
        same(where + " firstError", () -> bench.firstError(), () -> model.firstError());
        boolean full = !model.buffer.isEmpty();
        same(where + " build", () -> bench.build(), () -> model.build());
        built += full && model.buffer.isEmpty() ? 1 : 0;
        if (below(3) > 0) {
            same(where + " clearBuffer", () -> bench.clearBuffer(), () -> model.clearBuffer());
        }
    }

    private String order() {
        switch (below(4)) {
            case 0: return "p" + place() + "," + place();
            case 1: return "g" + below(6) + "." + near(2) + "=" + near(21);
            case 2: return "r" + below(6) + "." + near(2) + "=" + (6 + near(35));
            default: return "d" + below(9);
        }
    }

    private void append(String where, String text) {
        for (int i = 0; i < text.length(); i++) {
            int code = text.charAt(i);
            same(where + " append", () -> bench.append(code), () -> model.append(code));
        }
    }

    private void look(String where) {
        int one = somePeg();
        int other = somePeg();
        int eleven = near(11);
        int nine = near(9);
        int four = near(4);
        int three = near(3);
        int two = near(2);
        int teeth = near(21);
        switch (below(12)) {
            case 0: same(where + " peg", () -> bench.peg(one, nine), () -> model.peg(one, nine)); break;
            case 1: same(where + " speed", () -> bench.speed(one, two), () -> model.speed(one, two)); break;
            case 2: same(where + " meshes", () -> bench.meshes(one, other), () -> model.meshes(one, other)); break;
            case 3: same(where + " train", () -> bench.train(one, other, four), () -> model.train(one, other, four)); break;
            case 4: same(where + " ratio", () -> bench.ratio(one, other, two), () -> model.ratio(one, other, two)); break;
            case 5: same(where + " marks", () -> bench.marks(), () -> model.marks()); break;
            case 6: same(where + " count", () -> bench.count(eleven), () -> model.count(eleven)); break;
            case 7: same(where + " solution", () -> bench.solution(three), () -> model.solution(three)); break;
            case 8: same(where + " culprit", () -> bench.culprit(), () -> model.culprit()); break;
            case 9: same(where + " turningShare", () -> bench.turningShare(), () -> model.turningShare()); break;
            default: same(where + " ifPut", () -> bench.ifPut(one, two, teeth, four), () -> model.ifPut(one, two, teeth, four));
        }
    }

    private void note() {
        jams += model.count(6);
        solved += model.solution(0) >= 0 ? 1 : 0;
        culprits += model.culprit() >= 0 ? 1 : 0;
        overlapping += model.count(9) > 0 ? 1 : 0;
        for (int from = 0; from < model.now.pegs.size(); from++) {
            longTrains += model.train(0, from, 0) > 3 ? 1 : 0;
            idle += model.train(0, from, 1) > 0 ? 1 : 0;
        }
    }
}
