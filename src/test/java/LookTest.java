/** Promises 15 to 21: looks. */
final class LookTest {
    private static final Check CHECK = new Check("LookTest");
    private static final Class<IllegalArgumentException> ARGUMENT = Check.ARGUMENT;
    private static final Class<IndexOutOfBoundsException> INDEX = Check.INDEX;

    public static void main(String[] args) {
        CHECK.test("promise 15: peg", LookTest::promise15Peg);
        CHECK.test("promise 16: speed", LookTest::promise16Speed);
        CHECK.test("promise 16: jam", LookTest::promise16Jam);
        CHECK.test("promise 17: meshes", LookTest::promise17Meshes);
        CHECK.test("promise 18: train", LookTest::promise18Train);
        CHECK.test("promise 18: idlers", LookTest::promise18Idlers);
        CHECK.test("promise 19: ratio", LookTest::promise19Ratio);
        CHECK.test("promise 20: marks", LookTest::promise20Marks);
        CHECK.test("promise 21: count", LookTest::promise21Count);
        CHECK.end();
    }

    /** Pegs 0, 1, 2 in a row by two levels; 3 within the ring of 2; 4 alone. */
    private static GearBench sample() {
        return Check.built("p10,10;p18,10;p18,22;p18,24;p50,50;g0.0=5;g1.0=3;g1.1=8",
                "g2.1=4;r2.0=9;g3.0=7;g4.1=7;d0");
    }

    private static void properties(GearBench x, int peg, int... due) {
        for (int what = 0; what < due.length; what++) {
            CHECK.equal("15 peg(" + peg + ", " + what + ")", x.peg(peg, what), due[what]);
        }
    }

    private static void promise15Peg() {
        GearBench x = sample();
        properties(x, 0, 10, 10, 5, 0, 1, 0, 1, 1, 1);
        properties(x, 1, 18, 10, 3, 8, 1, 1, 2, 2, 1);
        properties(x, 2, 18, 22, 9, 4, 2, 1, 2, 1, 1);
        properties(x, 3, 18, 24, 7, 0, 1, 0, 1, 1, 1);
        properties(x, 4, 50, 50, 0, 7, 0, 1, 0, 0, 0);
        CHECK.refused("15 no such peg", x, INDEX, () -> x.peg(5, 9));
        CHECK.refused("15 peg -1", x, INDEX, () -> x.peg(-1, 0));
        CHECK.refused("15 what 9", x, ARGUMENT, () -> x.peg(0, 9));
        CHECK.refused("15 what -1", x, ARGUMENT, () -> x.peg(0, -1));
        GearBench jam = jammed();
        properties(jam, 0, 20, 20, 5, 5, 1, 1, 1, 0, 1);
        properties(jam, 1, 30, 20, 5, 5, 1, 1, 3, 0, 1);
        GearBench still = Check.built("p10,10;p20,10;g0.0=5;g1.0=5");
        properties(still, 0, 10, 10, 5, 0, 1, 0, 1, 0, 0);
    }

    /** Pegs 1, 2, 3 in a ring of three on level 0; the driver 0 meshes with 1 on level 1. */
    private static GearBench jammed() {
        GearBench x = Check.built("p20,20;p30,20;p40,20;p35,29;g0.1=5;g1.1=5;g1.0=5;g2.0=5;d0");
        x.set(1);
        x.putGear(3, 0, 5);
        x.putGear(0, 0, 5);
        return x;
    }

    private static void speeds(GearBench x, long... due) {
        for (int i = 0; i + 1 < due.length; i += 2) {
            CHECK.equal("16 numerator of " + i / 2, x.speed(i / 2, 0), due[i]);
            CHECK.equal("16 denominator of " + i / 2, x.speed(i / 2, 1), due[i + 1]);
        }
    }

    private static void promise16Speed() {
        GearBench x = sample();
        speeds(x, 1, 1, -5, 3, 10, 3, 30, 7, 0, 1);
        x.drive(4);
        speeds(x, 0, 1, 0, 1, 0, 1, 0, 1, 1, 1);
        x.drive(3);
        speeds(x, 7, 30, -7, 18, 7, 9, 1, 1, 0, 1);
        CHECK.refused("16 no such peg", x, INDEX, () -> x.speed(5, 2));
        CHECK.refused("16 peg -1", x, INDEX, () -> x.speed(-1, 0));
        CHECK.refused("16 what 2", x, ARGUMENT, () -> x.speed(0, 2));
        CHECK.refused("16 what -1", x, ARGUMENT, () -> x.speed(0, -1));
        speeds(Check.built("p10,10;p20,10;g0.0=5;g1.0=5"), 0, 1, 0, 1);
        speeds(Check.built("p20,10;g0.0=5;d0"), 1, 1);
        speeds(Check.built("p20,10;d0"), 1, 1);
    }

    private static void promise16Jam() {
        GearBench three = jammed();
        speeds(three, 0, 1, 0, 1, 0, 1, 0, 1);
        CHECK.equal("16 a ring of three jams", three.count(6), 1);
        three.drive(3);
        CHECK.equal("16 whoever drives", three.count(6), 1);
        GearBench four = Check.built("p20,20;p30,20;p20,30;p30,30;g0.0=5;g1.0=5;g2.0=5;g3.0=5;d0");
        speeds(four, 1, 1, -1, 1, -1, 1, 1, 1);
        CHECK.equal("16 a ring of four does not", four.count(6), 0);
        GearBench both = Check.built("p20,20;p30,20;g0.0=5;g1.0=5;g0.1=4;g1.1=6;d0");
        CHECK.equal("16 unlike on both levels", both.count(6), 1);
        speeds(both, 0, 1, 0, 1);
        both.putGear(0, 1, 0);
        both.putGear(1, 1, 5);
        both.putGear(0, 1, 5);
        CHECK.equal("16 alike on both levels", both.count(6), 0);
        speeds(both, 1, 1, -1, 1);
        GearBench apart = jammed();
        apart.move(0, 1, 1);
        CHECK.equal("16 a ring apart from the driver does not jam", apart.count(6), 0);
        speeds(apart, 1, 1, 0, 1, 0, 1, 0, 1);
        GearBench ring = Check.built("p20,20;p32,20;r0.0=24;g1.0=12;g0.1=8;g1.1=4;d1");
        CHECK.equal("16 with it and against it", ring.count(6), 1);
    }

    private static void promise17Meshes() {
        GearBench x = sample();
        int[][] due = {{0, 1, 0, 0, 0}, {1, 0, 2, 0, 0}, {0, 2, 0, 1, 0}, {0, 0, 1, 0, 0}, {0, 0, 0, 0, 0}};
        for (int one = 0; one < 5; one++) {
            for (int other = 0; other < 5; other++) {
                CHECK.equal("17 meshes(" + one + ", " + other + ")", x.meshes(one, other), due[one][other]);
            }
        }
        CHECK.equal("17 both", Check.built("p20,20;p30,20;g0.0=5;g1.0=5;g0.1=4;g1.1=6").meshes(1, 0), 3);
        CHECK.refused("17 the former", x, INDEX, () -> x.meshes(5, 0));
        CHECK.refused("17 the latter", x, INDEX, () -> x.meshes(0, 5));
        CHECK.refused("17 -1", x, INDEX, () -> x.meshes(-1, 0));
        CHECK.refused("17 -1 as the latter", x, INDEX, () -> x.meshes(0, -1));
    }

    private static void trains(GearBench x, int from, int to, int... due) {
        for (int what = 0; what < due.length; what++) {
            CHECK.equal("18 train(" + from + ", " + to + ", " + what + ")", x.train(from, to, what), due[what]);
        }
    }

    private static void promise18Train() {
        GearBench x = sample();
        trains(x, 0, 0, 1, 0, -1, 0);
        trains(x, 0, 1, 2, 0, 1, 1);
        trains(x, 0, 2, 3, 0, 1, 0);
        trains(x, 0, 3, 4, 0, 1, 0);
        trains(x, 3, 0, 4, 0, 2, 0);
        trains(x, 3, 1, 3, 0, 2, 1);
        trains(x, 0, 4, -1, -1, -1, -1);
        trains(x, 4, 4, 1, 0, -1, 0);
        CHECK.refused("18 the former", x, INDEX, () -> x.train(5, 0, 4));
        CHECK.refused("18 the latter", x, INDEX, () -> x.train(0, 5, 4));
        CHECK.refused("18 -1", x, INDEX, () -> x.train(-1, 0, 0));
        CHECK.refused("18 -1 as the latter", x, INDEX, () -> x.train(0, -1, 0));
        CHECK.refused("18 what 4", x, ARGUMENT, () -> x.train(0, 0, 4));
        CHECK.refused("18 what -1", x, ARGUMENT, () -> x.train(0, 0, -1));
        trains(jammed(), 0, 3, 3, 1, 1, 0);
        GearBench four = Check.built("p30,30;p30,20;p20,30;p20,20;g0.0=5;g1.0=5;g2.0=5;g3.0=5");
        trains(four, 0, 3, 3, 1, 1, 0);
        trains(four, 3, 0, 3, 1, 1, 0);
        trains(four, 1, 2, 3, 1, 0, 0);
    }

    private static void promise18Idlers() {
        GearBench level1 = Check.built("p10,10;p20,10;p30,10;p40,10;g0.1=5;g1.1=5;g2.1=5;g3.1=5");
        trains(level1, 0, 3, 4, 2, 1, 1);
        GearBench unlike = Check.built("p10,10;p20,10;p30,10;g0.0=5;g1.0=5;g1.1=5;g2.1=5");
        trains(unlike, 0, 2, 3, 0, 1, 0);
        GearBench both = Check.built("p10,10;p20,10;p30,10;g0.0=5;g1.0=5;g0.1=5;g1.1=5;g2.1=5");
        trains(both, 0, 2, 3, 0, 1, 0);
        GearBench ring = Check.built("p30,30;p40,30;p20,30;r0.0=15;g1.0=5;g2.0=5");
        trains(ring, 1, 2, 3, 1, 0, 0);
    }

    private static void ratios(GearBench x, int from, int to, long numerator, long denominator) {
        CHECK.equal("19 numerator from " + from + " to " + to, x.ratio(from, to, 0), numerator);
        CHECK.equal("19 denominator from " + from + " to " + to, x.ratio(from, to, 1), denominator);
    }

    private static void promise19Ratio() {
        GearBench x = sample();
        ratios(x, 0, 0, 1, 1);
        ratios(x, 0, 1, -5, 3);
        ratios(x, 1, 0, -3, 5);
        ratios(x, 0, 2, 10, 3);
        ratios(x, 0, 3, 30, 7);
        ratios(x, 3, 0, 7, 30);
        ratios(x, 2, 3, 9, 7);
        ratios(x, 0, 4, 0, 1);
        ratios(x, 4, 4, 1, 1);
        CHECK.refused("19 the former", x, INDEX, () -> x.ratio(5, 0, 2));
        CHECK.refused("19 the latter", x, INDEX, () -> x.ratio(0, 5, 2));
        CHECK.refused("19 -1", x, INDEX, () -> x.ratio(-1, 0, 0));
        CHECK.refused("19 -1 as the latter", x, INDEX, () -> x.ratio(0, -1, 0));
        CHECK.refused("19 what 2", x, ARGUMENT, () -> x.ratio(0, 0, 2));
        CHECK.refused("19 what -1", x, ARGUMENT, () -> x.ratio(0, 0, -1));
        GearBench both = Check.built("p20,20;p30,20;g0.0=5;g1.0=5;g0.1=4;g1.1=6;d0");
        ratios(both, 0, 1, -1, 1);
        trains(both, 0, 1, 2, 0, 1, 1);
        ratios(jammed(), 0, 3, 1, 1);
    }

    private static void promise20Marks() {
        GearBench x = sample();
        CHECK.equal("20 by the denominators 3, 3 and 7", x.marks(), 21);
        x.drive(3);
        CHECK.equal("20 by the denominators 9, 18 and 30", x.marks(), 90);
        x.drive(4);
        CHECK.equal("20 the driver alone", x.marks(), 1);
        CHECK.equal("20 no driver", Check.built("p10,10;p20,10;g0.0=5;g1.0=5").marks(), 0);
        CHECK.equal("20 jam", jammed().marks(), 0);
        CHECK.equal("20 no pegs", new GearBench().marks(), 0);
        GearBench star = Check.built("p30,30;p37,30;p23,30;g0.0=1;g1.0=6;g2.0=6;d0");
        CHECK.equal("20 the same twice", star.marks(), 6);
        star.putGear(2, 0, 4);
        star.move(2, 25, 30);
        CHECK.equal("20 the least common multiple of 6 and 4", star.marks(), 12);
        longTrain();
    }

    /** Gears of one tooth within rings, eight times, so that the numbers need a long. */
    private static void longTrain() {
        int[] x = {31, 53, 47, 29, 13, 48, 28, 57, 28};
        int[] y = {36, 4, 38, 3, 41, 46, 10, 23, 47};
        int[] rings = {40, 37, 39, 40, 39, 40, 35, 38};
        GearBench bench = new GearBench();
        bench.set(3);
        bench.addPeg(x[0], y[0]);
        bench.drive(0);
        long product = 1;
        for (int peg = 1; peg <= 8; peg++) {
            int level = (peg - 1) % 2;
            bench.addPeg(x[peg], y[peg]);
            bench.putGear(peg - 1, level, 1);
            CHECK.equal("20 a ring round one gear", bench.putRing(peg, level, rings[peg - 1]), 1);
            product = product * rings[peg - 1];
        }
        CHECK.equal("20 all are joined", bench.count(5), 9);
        CHECK.equal("20 marks of a long train", bench.marks(), product);
        CHECK.equal("16 numerator of its end", bench.speed(8, 0), 1);
        CHECK.equal("16 denominator of its end", bench.speed(8, 1), product);
        ratios(bench, 0, 8, 1, product);
        ratios(bench, 8, 0, product, 1);
    }

    private static void counts(GearBench x, int... due) {
        for (int what = 0; what < due.length; what++) {
            CHECK.equal("21 count(" + what + ")", x.count(what), due[what]);
        }
    }

    private static void promise21Count() {
        GearBench x = sample();
        counts(x, 5, 6, 1, 3, 0, 4, 0, -1, 0, 0, 2);
        x.goal(3, 30, 7);
        counts(x, 5, 6, 1, 3, 0, 4, 0, 3, 1, 0, 3);
        CHECK.refused("21 what 11", x, ARGUMENT, () -> x.count(11));
        CHECK.refused("21 what -1", x, ARGUMENT, () -> x.count(-1));
        GearBench jam = jammed();
        counts(jam, 4, 6, 0, 4, 0, 4, 1, -1, 0, 0, 4);
        CHECK.equal("21 of 0, reached in a jam", jam.goal(0, 0, 1), 1);
        jam.set(0);
        counts(jam, 4, 6, 0, 2, 0, 3, 0, 0, 0, 0, 6);
        GearBench overlaps = Check.built("p20,20;p30,20;p25,28");
        overlaps.set(3);
        overlaps.putGear(0, 0, 6);
        overlaps.putGear(1, 0, 6);
        overlaps.putGear(0, 1, 6);
        overlaps.putGear(1, 1, 6);
        overlaps.putGear(2, 0, 6);
        CHECK.equal("21 two levels are one pair", overlaps.count(3), 3);
        overlaps.set(0);
        CHECK.equal("21 two levels are two overlaps", overlaps.count(9), 4);
        CHECK.equal("21 none meshes", overlaps.count(3), 0);
        GearBench rings = Check.built("p20,20;p30,20;r1.0=12");
        rings.set(3);
        rings.putGear(0, 0, 5);
        CHECK.equal("21 gear and ring", rings.count(3) * 10 + rings.count(9), 10);
        rings.set(0);
        CHECK.equal("21 gear and ring overlap", rings.count(3) * 10 + rings.count(9), 1);
    }
}
