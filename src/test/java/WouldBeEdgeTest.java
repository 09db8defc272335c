/** The boundary cases that promises 22 to 26 name, each in a test of its own. */
final class WouldBeEdgeTest {
    private static final Check CHECK = new Check("WouldBeEdgeTest");
    private static final int LEAST = Integer.MIN_VALUE;
    private static final int MOST = Integer.MAX_VALUE;

    public static void main(String[] args) {
        promise22Arguments();
        promise22Meshes();
        promise22Turning();
        promise22WithoutGoalOrDriver();
        promise23Arguments();
        promise23None();
        promise23Order();
        promise24();
        promise25();
        promise26();
        CHECK.end();
    }

    // ---- Promise 22

    private static void promise22Arguments() {
        for (int wrong : new int[] {-1, 4, 8, 9, LEAST, MOST}) {
            CHECK.refuses("promise 22: there is no peg " + wrong, Check.INDEX, Benches::rich,
                    x -> x.ifPut(wrong, 0, 1, 0));
        }
        CHECK.refuses("promise 22: there is no peg at all", Check.INDEX, GearBench::new, x -> x.ifPut(0, 0, 1, 0));
        for (int wrong : new int[] {-1, 2, LEAST, MOST}) {
            CHECK.refuses("promise 22: the level is out of range: " + wrong, Check.ARGUMENT, Benches::rich,
                    x -> x.ifPut(0, wrong, 1, 0));
        }
        for (int wrong : new int[] {-1, 21, LEAST, MOST}) {
            CHECK.refuses("promise 22: the teeth are out of range: " + wrong, Check.ARGUMENT, Benches::rich,
                    x -> x.ifPut(0, 0, wrong, 0));
        }
        for (int wrong : new int[] {-1, 4, LEAST, MOST}) {
            CHECK.refuses("promise 22: what is out of range: " + wrong, Check.ARGUMENT, Benches::rich,
                    x -> x.ifPut(0, 0, 1, wrong));
        }
        CHECK.refuses("promise 22: no such peg goes before the level", Check.INDEX, Benches::rich,
                x -> x.ifPut(4, 2, 1, 0));
        CHECK.refuses("promise 22: no such peg goes before the teeth", Check.INDEX, Benches::rich,
                x -> x.ifPut(4, 0, 21, 0));
        CHECK.refuses("promise 22: no such peg goes before what", Check.INDEX, Benches::rich,
                x -> x.ifPut(-1, 0, 1, 4));
        CHECK.answers("promise 22: 0 teeth, level 0 and what 0 are in range", 0,
                () -> Benches.rich().ifPut(3, 0, 0, 0));
        CHECK.answers("promise 22: 20 teeth, level 1 and what 3 are in range", 1,
                () -> Benches.rich().ifPut(3, 1, 20, 3));
    }

    private static void meshes(String rule, int due, GearBench x, int peg, int level, int teeth) {
        CHECK.answers("promise 22: " + rule, due, () -> x.ifPut(peg, level, teeth, 0));
    }

    private static void promise22Meshes() {
        meshes("it would mesh with none", 0, Benches.rich(), 3, 1, 20);
        meshes("it would mesh with one", 1, Benches.rich(), 2, 0, 5);
        meshes("it would mesh with two", 2, Check.built("p20,20;p30,20;p40,20;g0.0=5;g2.0=5"), 1, 0, 5);
        meshes("meshing on the other level does not count", 0, Benches.rich(), 1, 0, 1);
        meshes("nothing there would mesh with none", 0, Benches.rich(), 0, 0, 0);
        meshes("NONE if it would overlap with a gear", -1, Benches.rich(), 1, 0, 7);
        meshes("NONE if it would overlap with one and mesh with another one", -1,
                Check.built("p20,20;p30,20;p41,20;g0.0=5;g2.0=5"), 1, 0, 6);
        meshes("NONE if it would overlap with a ring", -1, Check.built("p20,20;p30,20;r1.0=12"), 0, 0, 5);
        meshes("it would be within a ring", 0, Check.built("p20,20;p30,20;r1.0=12"), 0, 0, 1);
        meshes("it would mesh with a ring", 1, Check.built("p20,20;p30,20;r1.0=12"), 0, 0, 2);
        meshes("in place of a ring there", 1, Check.built("p20,20;p30,20;g0.0=5;r1.0=15"), 1, 0, 5);
        meshes("the gear there is meant again", 1, Benches.rich(), 0, 0, 5);
        meshes("what overlaps now would overlap again", -1, Benches.overlapping(), 0, 0, 7);
        meshes("things of other pegs that overlap do not hinder it", 0, Benches.overlapping(), 2, 0, 20);
        meshes("nothing would overlap where it is taken away", 0, Benches.overlapping(), 0, 0, 0);
    }

    /** Gears of 4 and 6 on level 1 beside gears of 5 on level 0: they would jam. */
    private static GearBench beforeJam() {
        GearBench x = Check.built("p20,20;p30,20;g0.0=5;g1.0=5;g0.1=4;d0");
        x.goal(1, -1, 1);
        return x;
    }

    private static GearBench inJam() {
        GearBench x = beforeJam();
        x.putGear(1, 1, 6);
        return x;
    }

    private static void would(String rule, GearBench x, int peg, int level, int teeth, int... due) {
        String[] names = {"pegs it would mesh with", "a jam", "pegs joined", "the goal reached"};
        for (int what = 1; what <= 3; what++) {
            int asked = what;
            CHECK.answers("promise 22: " + rule + ": " + names[what], due[what - 1],
                    () -> x.ifPut(peg, level, teeth, asked));
        }
    }

    private static void promise22Turning() {
        would("no jam as it is", beforeJam(), 1, 0, 5, 0, 2, 1);
        would("there would be a jam", beforeJam(), 1, 1, 6, 1, 2, 0);
        would("there would be no jam any more", inJam(), 1, 1, 5, 0, 2, 1);
        would("taking away would end the jam", inJam(), 0, 1, 0, 0, 2, 1);
        would("taking away would leave the driver alone", beforeJam(), 0, 0, 0, 0, 1, 0);
        would("one more peg would be joined", Benches.rich(), 3, 1, 5, 0, 3, 1);
        would("it would overlap, and turn as if it could be put", beforeJam(), 1, 1, 7, 0, 2, 1);
        GearBench far = Check.built("p20,20;p30,20;p40,20;p20,24;g1.0=5;g2.0=5;d0");
        far.goal(2, 1, 1);
        far.putGear(3, 0, 1);
        CHECK.answers("promise 22: it would overlap with one: NONE", -1, () -> far.ifPut(0, 0, 5, 0));
        would("it overlaps with one, and joins others as if it could be put", far, 0, 0, 5, 0, 3, 1);
        GearBench jam = Benches.jammed();
        jam.goal(0, 0, 1);
        would("a goal of 0 would be reached in a jam", jam, 0, 1, 1, 1, 3, 1);
        GearBench three = Check.built("p20,20;p30,20;p25,29;g0.0=5;g1.0=5;d0");
        three.set(1);
        would("a ring of three gears would jam", three, 2, 0, 5, 1, 3, 0);
    }

    private static void promise22WithoutGoalOrDriver() {
        CHECK.answers("promise 22: 0 without a goal", 0,
                () -> Check.built("p20,20;p30,20;g0.0=5;d0").ifPut(1, 0, 5, 3));
        CHECK.answers("promise 22: no jam without a driver", 0,
                () -> Check.built("p20,20;p30,20;g0.0=5;g1.0=5;g0.1=4").ifPut(1, 1, 6, 1));
        CHECK.answers("promise 22: 0 pegs joined without a driver", 0,
                () -> Check.built("p20,20;p30,20;g0.0=5").ifPut(1, 0, 5, 2));
        CHECK.answers("promise 22: a goal is not reached without a driver", 0, () -> {
            GearBench x = Check.built("p20,20;p30,20;g0.0=5");
            x.goal(1, -1, 1);
            return x.ifPut(1, 0, 5, 3);
        });
        CHECK.answers("promise 22: 0 without a driver, also for a goal of 0", 0, () -> {
            GearBench x = Check.built("p20,20;p30,20;g0.0=5");
            x.goal(1, 0, 1);
            return x.ifPut(1, 0, 5, 3);
        });
        CHECK.answers("promise 22: a jam is told without a goal", 1,
                () -> Check.built("p20,20;p30,20;g0.0=5;g1.0=5;g0.1=4;d0").ifPut(1, 1, 6, 1));
        CHECK.answers("promise 22: pegs joined are told without a goal", 2,
                () -> Check.built("p20,20;p30,20;g0.0=5;d0").ifPut(1, 0, 5, 2));
    }

    // ---- Promise 23

    private static void promise23Arguments() {
        for (int wrong : new int[] {-1, 3, LEAST, MOST}) {
            CHECK.refuses("promise 23: what is not 0 to 2: " + wrong, Check.ARGUMENT, Benches::rich,
                    x -> x.solution(wrong));
        }
    }

    /** A bench from a text and a goal, and the first change that reaches it. */
    private static void solves(String rule, GearBench x, int goalPeg, int numerator, int denominator, int... due) {
        CHECK.test("promise 23: " + rule, () -> {
            x.goal(goalPeg, numerator, denominator);
            for (int what = 0; what < 3; what++) {
                CHECK.equal("solution(" + what + ")", x.solution(what), due[what]);
            }
            if (due[0] >= 0) {
                x.putGear(due[0], due[1], due[2]);
                CHECK.equal("reached by it", x.count(8), 1);
            }
        });
    }

    /** Nine pegs with gears of 3 on level 0, each of which meshes with the next one; the first one drives. */
    private static GearBench fullRow() {
        GearBench x = Benches.nine();
        for (int peg = 0; peg < 9; peg++) {
            x.putGear(peg, 0, 3);
        }
        x.drive(0);
        return x;
    }

    private static void promise23None() {
        for (int what = 0; what < 3; what++) {
            int asked = what;
            CHECK.answers("promise 23: NONE without pegs, what " + what, -1, () -> new GearBench().solution(asked));
            CHECK.answers("promise 23: NONE without a goal, what " + what, -1,
                    () -> Benches.fresh().solution(asked));
            CHECK.answers("promise 23: NONE if it is reached already, what " + what, -1,
                    () -> Benches.rich().solution(asked));
        }
        solves("NONE without a driver", Check.built("p20,20;p30,20;g0.0=5"), 1, -1, 1, -1, -1, -1);
        solves("NONE for a goal of 0 without a driver, as it is reached", Check.built("p20,20"), 0, 0, 1, -1, -1, -1);
        solves("NONE if no gear reaches it", Benches.fresh(), 0, 2, 1, -1, -1, -1);
        solves("NONE if the gear that would reach it would overlap",
                Check.built("p20,20;p30,20;p25,20;g0.0=4;g2.0=1;d0"), 1, -2, 3, -1, -1, -1);
        solves("NONE if a gear of 21 teeth alone would reach it", Check.built("p20,20;p42,20;g0.0=1;d0"), 1, -1, 21,
                -1, -1, -1);
        solves("NONE among nine pegs, after the last change of the last one", fullRow(), 0, 2, 1, -1, -1, -1);
        solves("NONE if a ring alone would reach it", Check.built("p20,20;p30,20;g0.0=5;d0"), 1, 1, 3, -1, -1, -1);
        solves("NONE if two gears would have to be put", Check.built("p20,20;p30,20;d0"), 1, -1, 1, -1, -1, -1);
    }

    private static void promise23Order() {
        solves("a goal of the driver, that a jam hinders", inJam(), 0, 1, 1, 0, 0, 0);
        solves("a goal of 0 of the driver, by a gear that jams", beforeJam(), 0, 0, 1, 1, 1, 6);
        solves("a goal of the first peg", Check.built("p20,20;p30,20;g1.0=4;d1"), 0, -2, 3, 0, 0, 6);
        solves("a lower peg goes before a lower level and fewer teeth",
                Check.built("p20,20;p30,20;g1.1=1;g0.0=9;d0"), 1, -9, 1, 0, 1, 9);
        solves("of two pegs the lower one", Check.built("p20,20;p30,20;p40,20;g0.0=5;g2.0=5;d0"), 2, 1, 1, 1, 0, 5);
        solves("of two levels the lower one", Check.built("p20,20;p30,20;g0.0=5;g0.1=5;d0"), 1, -1, 1, 1, 0, 5);
        solves("level 1, if level 0 is of no use", Check.built("p20,20;p30,20;g0.1=5;d0"), 1, -1, 1, 1, 1, 5);
        GearBench wide = Check.built("p20,20;p30,20;p40,20;g0.0=5;g2.0=5;d0");
        wide.set(1);
        solves("of several teeth the fewest", wide, 2, 1, 1, 1, 0, 4);
        solves("0 teeth, if taking away reaches it", Benches.fresh(), 1, 0, 1, 0, 0, 0);
        solves("0 teeth go before others", inJam(), 1, -1, 1, 0, 1, 0);
        solves("the least gear, of 1 tooth", Check.built("p20,20;p30,20;g0.0=9;d0"), 1, -9, 1, 1, 0, 1);
        solves("the greatest gear, of 20 teeth", Check.built("p20,20;p41,20;g0.0=1;d0"), 1, -1, 20, 1, 0, 20);
        GearBench nine = Benches.nine();
        nine.putGear(7, 1, 2);
        nine.drive(7);
        solves("the last peg and its last level", nine, 8, -1, 2, 8, 1, 4);
        solves("a gear in place of a ring", Check.built("p20,20;p30,20;g0.0=5;r1.0=16;d0"), 1, -1, 1, 1, 0, 5);
        GearBench overlap = Benches.overlapping();
        overlap.drive(0);
        solves("a change, where things overlap already", overlap, 1, -1, 1, -1, -1, -1);
        GearBench other = Benches.overlapping();
        other.drive(0);
        solves("a lesser gear, where things overlap already", other, 1, -6, 7, 0, 0, 6);
    }

    // ---- Promise 24

    private static void promise24() {
        CHECK.answers("promise 24: NONE without pegs", -1, () -> new GearBench().culprit());
        CHECK.answers("promise 24: NONE if there is no jam", -1, () -> Benches.rich().culprit());
        CHECK.answers("promise 24: NONE without a driver, as there is no jam", -1,
                () -> Check.built("p20,20;p30,20;g0.0=5;g1.0=5;g0.1=4;g1.1=6").culprit());
        CHECK.answers("promise 24: the lowest one, that is not the driver", 1, () -> Benches.jammed().culprit());
        CHECK.answers("promise 24: the lowest one, if another one drives", 0, () -> {
            GearBench x = Benches.jammed();
            x.drive(1);
            return x.culprit();
        });
        CHECK.answers("promise 24: NONE if the driver would be alone", -1, () -> inJam().culprit());
        CHECK.answers("promise 24: NONE among nine pegs, of which none would free it", -1, () -> {
            GearBench x = fullRow();
            x.putGear(0, 1, 2);
            x.putGear(1, 1, 4);
            x.putGear(3, 1, 2);
            x.putGear(4, 1, 4);
            CHECK.equal("jam", x.count(6), 1);
            return x.culprit();
        });
        CHECK.answers("promise 24: NONE if the driver would be alone beside a peg with nothing on it", -1, () -> {
            GearBench x = Check.built("p20,20;p25,20;g0.0=5;r1.0=10;g0.1=2;g1.1=3;d0");
            CHECK.equal("jam", x.count(6), 1);
            return x.culprit();
        });
        CHECK.answers("promise 24: without its things a peg touches no gear that reaches just to it", 1, () -> {
            GearBench x = Check.built("p20,20;p25,20;p10,20;g0.0=5;r1.0=10;g0.1=2;g1.1=3;d0", "g2.0=5");
            CHECK.equal("jam", x.count(6), 1);
            return x.culprit();
        });
        CHECK.answers("promise 24: one other peg joined is enough", 1, () -> {
            GearBench x = inJam();
            x.addPeg(10, 20);
            x.putGear(2, 0, 5);
            return x.culprit();
        });
        CHECK.answers("promise 24: not the lowest one, if the driver would be alone without it", 2, () -> {
            GearBench x = Check.built("p30,20;p20,20;p40,20;p35,29;g1.0=5;g0.0=5;d1");
            x.set(1);
            x.putGear(2, 0, 5);
            x.putGear(3, 0, 5);
            return x.culprit();
        });
        CHECK.answers("promise 24: the last peg, that two jams share", 8, () -> {
            GearBench x = Check.built("p20,20;p30,20;p20,38;p30,38;p60,0;p60,6;p60,12;p60,18;p25,29", "d0");
            x.set(1);
            for (int peg : new int[] {0, 1, 2, 3, 8}) {
                x.putGear(peg, 0, 5);
            }
            CHECK.equal("joined", x.count(5), 5);
            return x.culprit();
        });
        CHECK.answers("promise 24: NONE if two pegs would have to go", -1, () -> {
            GearBench x = Check.built("p20,20;p30,20;p10,20;g0.0=5;g1.0=5;g2.0=5;g0.1=4;d0");
            x.putGear(1, 1, 6);
            x.putGear(2, 1, 6);
            return x.culprit();
        });
        CHECK.answers("promise 24: rings go, too", 1, () -> {
            GearBench x = Check.built("p20,20;p30,20;p10,20;g0.0=5;r1.0=15;g2.0=5;g0.1=5;g1.1=5;d0");
            CHECK.equal("jam", x.count(6), 1);
            return x.culprit();
        });
    }

    // ---- Promise 25

    private static void share(String rule, double due, GearBench x) {
        CHECK.test("promise 25: " + rule, () -> CHECK.equal("turningShare()", x.turningShare(), due));
    }

    private static void promise25() {
        share("0.0 without pegs", 0.0, new GearBench());
        share("0.0 without a driver", 0.0, Check.built("p20,20;p30,20;g0.0=5;g1.0=5"));
        share("0.0 in a jam", 0.0, Benches.jammed());
        share("1.0 if all turn", 1.0, Check.built("p20,20;p30,20;g0.0=5;g1.0=5;d0"));
        share("1.0 for the driver alone", 1.0, Check.built("p20,20;d0"));
        share("three of four", 0.75, Benches.rich());
        GearBench nine = Benches.nine();
        nine.drive(8);
        share("one of nine", 1.0 / 9.0, nine);
    }

    // ---- Promise 26

    private static long hash(long start, long... values) {
        long hash = start;
        for (long value : values) {
            hash = 31 * hash + value;
        }
        return hash;
    }

    private static void promise26() {
        CHECK.answers("promise 26: of a new object",
                hash(2753, 0, 0, 0, 0, -1, 0, 0, -1, 0, 0, 0, 0, 0, -1, -1, -1, -1, 0, 0),
                () -> new GearBench().digest());
        CHECK.answers("promise 26: of one peg alone",
                hash(2753, 1, 0, 0, 0, -1, 0, 0, -1, 0, 0, 1, 0, 7, 9, 0, 0, 0, 0, 0, 0, 0, 0, 1,
                        0, 1, 0, -1, 0, 1, 1, 0, -1, -1, -1, -1, 0, 0),
                () -> Check.built("p7,9").digest());
        CHECK.answers("promise 26: of a driver, a goal that is reached, play and a buffer",
                hash(2753, 1, 1, 1, 0, 0, 1, 0, 0, 1, 0, 3, 2, 7, 9, 5, 40, 1, 2, 0, 1, 1, 1, 1,
                        0, 1, 0, -1, 0, 1, 1, 1, -1, -1, -1, -1, Double.doubleToLongBits(1.0), 2, 'd', '~'),
                () -> {
                    GearBench x = Check.built("p7,9;g0.0=5;r0.1=40;d0");
                    x.goal(0, 3, 3);
                    x.set(2);
                    Check.type(x, "d~");
                    return x.digest();
                });
        CHECK.answers("promise 26: of two pegs, with a solution",
                hash(hash(hash(2753, 2, 1, 0, 0, 0, 1, 0, 1, 0, 0, 2, 0),
                        20, 20, 5, 0, 1, 0, 0, 1, 1, 1, 1, 30, 20, 0, 0, 0, 0, 0, 0, 0, 0, 1,
                        0, 1, 0, -1, 0, 1, 1, 0, -1, -1, -1, -1, 0, 1, 0, -1, -1, -1, -1, 0, 1, 0, 1, 0, -1, 0, 1, 1),
                        1, 1, 0, 5, -1, Double.doubleToLongBits(0.5), 0),
                () -> {
                    GearBench x = Check.built("p20,20;p30,20;g0.0=5;d0");
                    x.goal(1, -1, 1);
                    return x.digest();
                });
        CHECK.answers("promise 26: a full buffer", 60, () -> {
            GearBench x = new GearBench();
            long due = hash(2753, 0, 0, 0, 0, -1, 0, 0, -1, 0, 0, 0, 0, 0, -1, -1, -1, -1, 0, 60);
            for (int i = 0; i < 60; i++) {
                x.append(33 + i);
                due = 31 * due + 33 + i;
            }
            CHECK.equal("digest()", x.digest(), due);
            return x.clearBuffer();
        });
        CHECK.answers("promise 26: numbers that need a long", hashOfLongTrain(),
                () -> Benches.longTrain(true).digest());
        for (int pegs = 1; pegs <= 9; pegs++) {
            for (int turning = 0; turning <= pegs; turning++) {
                int all = pegs;
                int some = turning;
                CHECK.test("promise 26: the bits of " + turning + " by " + pegs, () -> bitsOfShare(all, some));
            }
        }
    }

    /** What is due for longTrain(true), by what is known of it. */
    private static long hashOfLongTrain() {
        long due = hash(2753, 9, 8, 8, 8, 0, 9, 0, -1, 0, 0, 6, 3);
        for (int peg = 0; peg < 9; peg++) {
            int ring = peg == 0 ? 0 : Benches.LONG_RINGS[peg - 1];
            int gear = peg == 8 ? 0 : 1;
            int ringKind = peg == 0 ? 0 : 2;
            boolean gearBelow = peg % 2 == 0;
            due = hash(due, Benches.LONG_X[peg], Benches.LONG_Y[peg], gearBelow ? gear : ring, gearBelow ? ring : gear,
                    gearBelow ? gear : ringKind, gearBelow ? ringKind : gear, peg == 0 || peg == 8 ? 1 : 2, 1, 1,
                    1, productOfRings(0, peg));
        }
        for (int from = 0; from < 9; from++) {
            for (int to = 0; to < 9; to++) {
                int steps = Math.abs(from - to);
                int next = from == to ? -1 : from < to ? from + 1 : from - 1;
                int level = Math.min(from, to) % 2;
                due = hash(due, steps == 1 ? level + 1 : 0, steps + 1, 0, next, 0,
                        productOfRings(to, from), productOfRings(from, to));
            }
        }
        return hash(due, Benches.LONG_PRODUCT, -1, -1, -1, -1, Double.doubleToLongBits(1.0), 0);
    }

    private static long productOfRings(int from, int to) {
        long product = 1;
        for (int ring = from; ring < to; ring++) {
            product *= Benches.LONG_RINGS[ring];
        }
        return product;
    }

    /** Gears of one tooth in a row, of which the first ones turn; its trains can be told without looks. */
    private static void bitsOfShare(int pegs, int turning) {
        GearBench x = new GearBench();
        for (int peg = 0; peg < pegs; peg++) {
            x.addPeg(2 * peg, 0);
            if (peg < turning) {
                x.putGear(peg, 0, 1);
            }
        }
        if (turning > 0) {
            x.drive(0);
        }
        long due = 2753;
        for (int what = 0; what <= 10; what++) {
            due = hash(due, x.count(what));
        }
        due = hash(due, 0);
        for (int peg = 0; peg < pegs; peg++) {
            for (int what = 0; what <= 8; what++) {
                due = hash(due, x.peg(peg, what));
            }
            due = hash(due, x.speed(peg, 0), x.speed(peg, 1));
        }
        for (int from = 0; from < pegs; from++) {
            for (int to = 0; to < pegs; to++) {
                due = hashOfPair(due, from, to, turning);
            }
        }
        double share = (double) turning / (double) pegs;
        due = hash(due, turning > 0 ? 1 : 0, -1, -1, -1, -1, Double.doubleToLongBits(share), 0);
        CHECK.equal("digest()", x.digest(), due);
        CHECK.equal("turningShare()", x.turningShare(), share);
    }

    private static long hashOfPair(long before, int from, int to, int turning) {
        if (from == to) {
            return hash(before, 0, 1, 0, -1, 0, 1, 1);
        }
        if (from >= turning || to >= turning) {
            return hash(before, 0, -1, -1, -1, -1, 0, 1);
        }
        int steps = Math.abs(from - to);
        int against = steps % 2;
        return hash(before, steps == 1 ? 1 : 0, steps + 1, steps - 1, from < to ? from + 1 : from - 1, against,
                against == 1 ? -1 : 1, 1);
    }
}
