/** The boundary cases that promises 15 to 21 name, each in a test of its own. */
final class LookEdgeTest {
    private static final Check CHECK = new Check("LookEdgeTest");
    private static final int LEAST = Integer.MIN_VALUE;
    private static final int MOST = Integer.MAX_VALUE;
    private static final int[] NO_PEG = {-1, 4, 8, 9, LEAST, MOST};

    public static void main(String[] args) {
        promise15Arguments();
        promise15Answers();
        promise16();
        promise17();
        promise18Arguments();
        promise18Answers();
        promise19();
        promise20();
        promise21Arguments();
        promise21Pegs();
        promise21Turning();
        promise21Overlaps();
        CHECK.end();
    }

    // ---- Promise 15

    private static void promise15Arguments() {
        for (int wrong : NO_PEG) {
            CHECK.refuses("promise 15: there is no peg " + wrong, Check.INDEX, Benches::rich, x -> x.peg(wrong, 0));
        }
        CHECK.refuses("promise 15: there is no peg at all", Check.INDEX, GearBench::new, x -> x.peg(0, 0));
        for (int wrong : new int[] {-1, 9, LEAST, MOST}) {
            CHECK.refuses("promise 15: what is not 0 to 8: " + wrong, Check.ARGUMENT, Benches::rich,
                    x -> x.peg(0, wrong));
        }
        CHECK.refuses("promise 15: no such peg goes before what", Check.INDEX, Benches::rich, x -> x.peg(4, 9));
    }

    private static void promise15Answers() {
        CHECK.answers("promise 15: x", 30, () -> Benches.rich().peg(2, 0));
        CHECK.answers("promise 15: y", 50, () -> Benches.rich().peg(3, 1));
        CHECK.answers("promise 15: teeth on level 0", 6, () -> Benches.rich().peg(3, 2));
        CHECK.answers("promise 15: teeth on level 1", 4, () -> Benches.rich().peg(1, 3));
        CHECK.answers("promise 15: 0 teeth if nothing is on level 0", 0, () -> Benches.rich().peg(2, 2));
        CHECK.answers("promise 15: 0 teeth if nothing is on level 1", 0, () -> Benches.rich().peg(0, 3));
        CHECK.answers("promise 15: nothing on level 0", 0, () -> Benches.rich().peg(2, 4));
        CHECK.answers("promise 15: a gear on level 0", 1, () -> Benches.rich().peg(1, 4));
        CHECK.answers("promise 15: a ring on level 0", 2, () -> Benches.rich().peg(3, 4));
        CHECK.answers("promise 15: nothing on level 1", 0, () -> Benches.rich().peg(3, 5));
        CHECK.answers("promise 15: a gear on level 1", 1, () -> Benches.rich().peg(2, 5));
        CHECK.answers("promise 15: a ring on level 1", 2, () -> Check.built("p1,1;r0.1=6").peg(0, 5));
        CHECK.answers("promise 15: it meshes with none", 0, () -> Benches.rich().peg(3, 6));
        CHECK.answers("promise 15: it meshes on level 0 alone", 1, () -> Benches.rich().peg(0, 6));
        CHECK.answers("promise 15: it meshes on level 1 alone", 1, () -> Benches.rich().peg(2, 6));
        CHECK.answers("promise 15: it meshes on either level with other pegs", 2, () -> Benches.rich().peg(1, 6));
        CHECK.answers("promise 15: one peg on both levels counts once", 1,
                () -> Check.built("p20,20;p30,20;g0.0=5;g0.1=5;g1.0=5;g1.1=5").peg(0, 6));
        CHECK.answers("promise 15: the driver turns as the driver", 1, () -> Benches.rich().peg(0, 7));
        CHECK.answers("promise 15: a peg that turns against the driver", 2, () -> Benches.rich().peg(1, 7));
        CHECK.answers("promise 15: a peg that turns as the driver does", 1, () -> Benches.rich().peg(2, 7));
        CHECK.answers("promise 15: a peg that does not turn", 0, () -> Benches.rich().peg(3, 7));
        CHECK.answers("promise 15: the driver in a jam does not turn", 0, () -> Benches.jammed().peg(0, 7));
        CHECK.answers("promise 15: without a driver nothing turns", 0, () -> Check.built("p1,1").peg(0, 7));
        CHECK.answers("promise 15: the driver is joined", 1, () -> Check.built("p1,1;d0").peg(0, 8));
        CHECK.answers("promise 15: a peg is joined by others", 1, () -> Benches.rich().peg(2, 8));
        CHECK.answers("promise 15: a peg that is not joined", 0, () -> Benches.rich().peg(3, 8));
        CHECK.answers("promise 15: without a driver none is joined", 0, () -> Check.built("p1,1").peg(0, 8));
        CHECK.answers("promise 15: joined in a jam, too", 1, () -> Benches.jammed().peg(2, 8));
    }

    // ---- Promise 16

    private static void promise16() {
        for (int wrong : NO_PEG) {
            CHECK.refuses("promise 16: there is no peg " + wrong, Check.INDEX, Benches::rich, x -> x.speed(wrong, 0));
        }
        CHECK.refuses("promise 16: there is no peg at all", Check.INDEX, GearBench::new, x -> x.speed(0, 0));
        for (int wrong : new int[] {-1, 2, LEAST, MOST}) {
            CHECK.refuses("promise 16: what is not 0 or 1: " + wrong, Check.ARGUMENT, Benches::rich,
                    x -> x.speed(0, wrong));
        }
        CHECK.refuses("promise 16: no such peg goes before what", Check.INDEX, Benches::rich, x -> x.speed(4, 2));
        speed("not joined", Benches.rich(), 3, 0, 1);
        speed("no driver", Check.built("p20,20;p30,20;g0.0=5;g1.0=5"), 1, 0, 1);
        speed("a jam", Benches.jammed(), 1, 0, 1);
        speed("the driver", Benches.rich(), 0, 1, 1);
        speed("against the driver", Benches.rich(), 1, -1, 1);
        speed("through two levels", Benches.rich(), 2, 2, 3);
        CHECK.test("promise 16: a numerator that needs a long", () -> {
            GearBench x = Benches.longTrain(false);
            CHECK.equal("numerator", x.speed(0, 0), Benches.LONG_PRODUCT);
            CHECK.equal("denominator", x.speed(0, 1), 1);
        });
        CHECK.test("promise 16: a denominator that needs a long", () -> {
            GearBench x = Benches.longTrain(true);
            CHECK.equal("numerator", x.speed(8, 0), 1);
            CHECK.equal("denominator", x.speed(8, 1), Benches.LONG_PRODUCT);
        });
    }

    private static void speed(String rule, GearBench x, int peg, long numerator, long denominator) {
        CHECK.test("promise 16: " + rule, () -> {
            CHECK.equal("numerator", x.speed(peg, 0), numerator);
            CHECK.equal("denominator", x.speed(peg, 1), denominator);
        });
    }

    // ---- Promise 17

    private static void promise17() {
        for (int wrong : NO_PEG) {
            CHECK.refuses("promise 17: there is no peg " + wrong + " as the one", Check.INDEX, Benches::rich,
                    x -> x.meshes(wrong, 0));
            CHECK.refuses("promise 17: there is no peg " + wrong + " as the other", Check.INDEX, Benches::rich,
                    x -> x.meshes(0, wrong));
        }
        CHECK.refuses("promise 17: there is no peg at all", Check.INDEX, GearBench::new, x -> x.meshes(0, 0));
        CHECK.answers("promise 17: not at all", 0, () -> Benches.rich().meshes(0, 2));
        CHECK.answers("promise 17: they are the same", 0, () -> Benches.rich().meshes(1, 1));
        CHECK.answers("promise 17: on level 0", 1, () -> Benches.rich().meshes(0, 1));
        CHECK.answers("promise 17: on level 0, asked from the other", 1, () -> Benches.rich().meshes(1, 0));
        CHECK.answers("promise 17: on level 1", 2, () -> Benches.rich().meshes(1, 2));
        CHECK.answers("promise 17: on level 1, asked from the other", 2, () -> Benches.rich().meshes(2, 1));
        CHECK.answers("promise 17: on both", 3,
                () -> Check.built("p20,20;p30,20;g0.0=5;g0.1=4;g1.0=5;g1.1=6").meshes(1, 0));
        CHECK.answers("promise 17: also without a driver and in a jam", 1, () -> Benches.jammed().meshes(0, 2));
        CHECK.test("promise 17: the last peg, where a number is used again", () -> {
            GearBench x = Benches.nine();
            x.putGear(7, 0, 3);
            x.putGear(8, 0, 3);
            CHECK.equal("they mesh", x.meshes(7, 8), 1);
            x.move(8, 60, 60);
            CHECK.equal("they are apart", x.meshes(7, 8), 0);
        });
        CHECK.test("promise 17: a peg that comes again meshes with none", () -> {
            GearBench x = Check.built("p20,20;g0.0=5");
            x.addPeg(30, 20);
            x.putGear(1, 0, 5);
            CHECK.equal("they mesh", x.meshes(0, 1), 1);
            x.undo();
            x.undo();
            x.addPeg(30, 20);
            CHECK.equal("it is empty", x.meshes(0, 1), 0);
        });
    }

    // ---- Promise 18

    private static void promise18Arguments() {
        for (int wrong : NO_PEG) {
            CHECK.refuses("promise 18: there is no peg " + wrong + " as from", Check.INDEX, Benches::rich,
                    x -> x.train(wrong, 0, 0));
            CHECK.refuses("promise 18: there is no peg " + wrong + " as to", Check.INDEX, Benches::rich,
                    x -> x.train(0, wrong, 0));
        }
        CHECK.refuses("promise 18: there is no peg at all", Check.INDEX, GearBench::new, x -> x.train(0, 0, 0));
        for (int wrong : new int[] {-1, 4, LEAST, MOST}) {
            CHECK.refuses("promise 18: what is not 0 to 3: " + wrong, Check.ARGUMENT, Benches::rich,
                    x -> x.train(0, 1, wrong));
        }
        CHECK.refuses("promise 18: no such peg goes before what", Check.INDEX, Benches::rich, x -> x.train(0, 4, 4));
    }

    private static void train(String rule, GearBench x, int from, int to, int... due) {
        for (int what = 0; what < 4; what++) {
            int asked = what;
            CHECK.answers("promise 18: " + rule + ", train(" + from + ", " + to + ", " + what + ")", due[what],
                    () -> x.train(from, to, asked));
        }
    }

    private static void promise18Answers() {
        train("there is none", Benches.rich(), 0, 3, -1, -1, -1, -1);
        train("there is none, asked from the other", Benches.rich(), 3, 0, -1, -1, -1, -1);
        train("both are the same", Benches.rich(), 1, 1, 1, 0, -1, 0);
        train("both are the same, with nothing on it", Check.built("p1,1"), 0, 0, 1, 0, -1, 0);
        train("of two pegs", Benches.rich(), 0, 1, 2, 0, 1, 1);
        train("of three pegs", Benches.rich(), 0, 2, 3, 0, 1, 0);
        train("of three pegs, asked from the other", Benches.rich(), 2, 0, 3, 0, 1, 0);
        train("in a jam", Benches.jammed(), 1, 2, 2, 0, 2, 1);
        train("without a driver", Check.built("p20,20;p30,20;p40,20;g0.0=5;g1.0=5;g2.0=5"), 2, 0, 3, 1, 1, 0);
    }

    // ---- Promise 19

    private static void promise19() {
        for (int wrong : NO_PEG) {
            CHECK.refuses("promise 19: there is no peg " + wrong + " as from", Check.INDEX, Benches::rich,
                    x -> x.ratio(wrong, 0, 0));
            CHECK.refuses("promise 19: there is no peg " + wrong + " as to", Check.INDEX, Benches::rich,
                    x -> x.ratio(0, wrong, 0));
        }
        CHECK.refuses("promise 19: there is no peg at all", Check.INDEX, GearBench::new, x -> x.ratio(0, 0, 0));
        for (int wrong : new int[] {-1, 2, LEAST, MOST}) {
            CHECK.refuses("promise 19: what is not 0 or 1: " + wrong, Check.ARGUMENT, Benches::rich,
                    x -> x.ratio(0, 1, wrong));
        }
        CHECK.refuses("promise 19: no such peg goes before what", Check.INDEX, Benches::rich, x -> x.ratio(0, 4, 2));
        ratio("there is no train", Benches.rich(), 0, 3, 0, 1);
        ratio("both are the same", Benches.rich(), 3, 3, 1, 1);
        ratio("of two pegs", Benches.rich(), 2, 1, -3, 2);
        ratio("of three pegs", Benches.rich(), 2, 0, 3, 2);
        ratio("in a jam, as if it turned", Benches.jammed(), 0, 2, -1, 1);
        ratio("without a driver", Check.built("p20,20;p30,20;g0.0=4;g1.0=6"), 1, 0, -3, 2);
        ratio("that needs a long", Benches.longTrain(true), 8, 0, Benches.LONG_PRODUCT, 1);
        ratio("whose denominator needs a long", Benches.longTrain(true), 0, 8, 1, Benches.LONG_PRODUCT);
    }

    private static void ratio(String rule, GearBench x, int from, int to, long numerator, long denominator) {
        CHECK.test("promise 19: " + rule, () -> {
            CHECK.equal("numerator", x.ratio(from, to, 0), numerator);
            CHECK.equal("denominator", x.ratio(from, to, 1), denominator);
        });
    }

    // ---- Promise 20

    private static void promise20() {
        CHECK.answers("promise 20: 0 without pegs", 0, () -> new GearBench().marks());
        CHECK.answers("promise 20: 0 without a driver", 0,
                () -> Check.built("p20,20;p30,20;g0.0=4;g1.0=6").marks());
        CHECK.answers("promise 20: 0 in a jam", 0, () -> Benches.jammed().marks());
        CHECK.answers("promise 20: 1 for the driver alone", 1, () -> Check.built("p20,20;d0").marks());
        CHECK.answers("promise 20: by the denominator of the last peg", 3, () -> Benches.rich().marks());
        CHECK.answers("promise 20: by the denominator of the first peg", 7,
                () -> Check.built("p20,20;p30,20;g0.0=7;g1.0=3;d1").marks());
        CHECK.answers("promise 20: a number that needs a long", Benches.LONG_PRODUCT,
                () -> Benches.longTrain(true).marks());
        CHECK.answers("promise 20: 1, though numerators need a long", 1, () -> Benches.longTrain(false).marks());
    }

    // ---- Promise 21

    private static void promise21Arguments() {
        for (int wrong : new int[] {-1, 11, LEAST, MOST}) {
            CHECK.refuses("promise 21: what is not 0 to 10: " + wrong, Check.ARGUMENT, Benches::rich,
                    x -> x.count(wrong));
        }
        int[] due = {4, 4, 1, 2, 0, 3, 0, 2, 1, 0, 6};
        for (int what = 0; what <= 10; what++) {
            int asked = what;
            CHECK.answers("promise 21: count(" + what + ")", due[what], () -> Benches.rich().count(asked));
        }
    }

    private static void promise21Pegs() {
        CHECK.answers("promise 21: all nine pegs", 9, () -> Benches.nine().count(0));
        CHECK.answers("promise 21: no gear among pegs and rings", 0, () -> Check.built("p1,1;r0.0=6").count(1));
        CHECK.answers("promise 21: a gear on each level of each peg", 18, () -> filled(true).count(1));
        CHECK.answers("promise 21: no ring among gears", 0, () -> filled(true).count(2));
        CHECK.answers("promise 21: a ring on each level of each peg", 18, () -> filled(false).count(2));
        CHECK.answers("promise 21: no pair that meshes", 0, () -> filled(false).count(3));
        CHECK.answers("promise 21: pairs that mesh on both levels count once", 8, () -> filled(true).count(3));
        CHECK.answers("promise 21: the driver, NONE without one", -1, () -> Benches.nine().count(4));
        CHECK.answers("promise 21: the peg of the goal, NONE without one", -1, () -> Benches.nine().count(7));
    }

    /** Nine pegs, 6 apart, with gears of 3 or rings of 6 on both levels. */
    private static GearBench filled(boolean withGears) {
        GearBench x = Benches.nine();
        for (int peg = 0; peg < 9; peg++) {
            for (int level = 0; level < 2; level++) {
                if (withGears) {
                    x.putGear(peg, level, 3);
                } else {
                    x.putRing(peg, level, 6);
                }
            }
        }
        return x;
    }

    private static void promise21Turning() {
        CHECK.answers("promise 21: no peg is joined without a driver", 0, () -> filled(true).count(5));
        CHECK.answers("promise 21: the driver alone is joined", 1, () -> Check.built("p1,1;p9,9;d1").count(5));
        CHECK.answers("promise 21: all pegs are joined", 9, () -> {
            GearBench x = filled(true);
            x.drive(4);
            return x.count(5);
        });
        CHECK.answers("promise 21: joined in a jam, too", 3, () -> Benches.jammed().count(5));
        CHECK.answers("promise 21: a jam", 1, () -> Benches.jammed().count(6));
        CHECK.answers("promise 21: no jam", 0, () -> Benches.rich().count(6));
        CHECK.answers("promise 21: the goal is not reached without one", 0, () -> Benches.nine().count(8));
        CHECK.answers("promise 21: a goal of 0 is reached without a driver", 1, () -> {
            GearBench x = Benches.nine();
            x.goal(3, 0, 1);
            return x.count(8);
        });
        CHECK.answers("promise 21: a goal is reached no more when it jams", 0, () -> {
            GearBench x = Check.built("p20,20;p30,20;p25,29;g0.0=5;g1.0=5;d0");
            x.set(1);
            x.goal(1, -1, 1);
            CHECK.equal("reached", x.count(8), 1);
            x.putGear(2, 0, 5);
            return x.count(8);
        });
    }

    private static void promise21Overlaps() {
        CHECK.answers("promise 21: nothing overlaps", 0, () -> Benches.rich().count(9));
        CHECK.answers("promise 21: nothing overlaps among nine pegs that are full", 0, () -> filled(true).count(9));
        CHECK.answers("promise 21: two things overlap", 1, () -> Benches.overlapping().count(9));
        CHECK.answers("promise 21: two pegs that overlap on both levels are two pairs of things", 2, () -> {
            GearBench x = Benches.overlapping();
            x.set(1);
            x.putGear(0, 1, 7);
            x.putGear(1, 1, 7);
            x.set(0);
            return x.count(9);
        });
        CHECK.answers("promise 21: three gears that overlap are three pairs", 3, () -> {
            GearBench x = Check.built("p20,20;p30,20;p25,29");
            x.set(3);
            for (int peg = 0; peg < 3; peg++) {
                x.putGear(peg, 0, 6);
            }
            x.set(0);
            return x.count(9);
        });
        CHECK.answers("promise 21: a gear and a ring that overlap", 1, () -> {
            GearBench x = Check.built("p20,20;p30,20;g0.0=5");
            x.set(3);
            x.putRing(1, 0, 12);
            x.set(2);
            return x.count(9);
        });
        CHECK.answers("promise 21: no saved state", 0, () -> new GearBench().count(10));
        CHECK.answers("promise 21: at most 6 saved states", 6, () -> filled(true).count(10));
    }
}
