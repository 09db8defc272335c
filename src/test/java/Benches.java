/** Benches that many tests begin with; each call makes a new one. */
final class Benches {
    /** Of longTrain(): where its pegs are, the teeth of its rings, and the product of these. */
    static final int[] LONG_X = {31, 53, 47, 29, 13, 48, 28, 57, 28};
    static final int[] LONG_Y = {36, 4, 38, 3, 41, 46, 10, 23, 47};
    static final int[] LONG_RINGS = {40, 37, 39, 40, 39, 40, 35, 38};
    static final long LONG_PRODUCT = 40L * 37 * 39 * 40 * 39 * 40 * 35 * 38;

    private Benches() {
    }

    /**
     * Pegs 0, 1, 2 in a row by two levels, 10 apart, a ring alone on 3; the driver 0, a goal that is reached,
     * play 1, six saved states with unlike goals, and a buffer with a syntax error.
     */
    static GearBench rich() {
        GearBench x = Check.built("p10,10;p20,10;p30,10;p50,50;g0.0=5;g1.0=5");
        x.putGear(1, 1, 4);
        x.putGear(2, 1, 6);
        x.putRing(3, 0, 6);
        x.drive(0);
        x.goal(2, 1, 3);
        x.goal(2, 2, 3);
        x.set(1);
        Check.type(x, "p1,~");
        return x;
    }

    /** As rich(), but with one saved state and an empty buffer. */
    static GearBench fresh() {
        return Check.built("p10,10;p20,10;p30,10;p50,50;g0.0=5;g1.0=5;g1.1=4;d0");
    }

    /** Nine pegs in a row, so that there is no room for one more. */
    static GearBench nine() {
        return Check.built("p0,0;p6,0;p12,0;p18,0;p24,0;p30,0;p36,0;p42,0;p48,0");
    }

    /** Two pegs with nothing on them, the second one so far from the first one at 20, 20. */
    static GearBench two(int byX, int byY, int play) {
        GearBench x = new GearBench();
        x.addPeg(20, 20);
        x.addPeg(20 + byX, 20 + byY);
        x.set(play);
        return x;
    }

    /** Three gears of 5, each of which meshes with both others with a play of 1: they jam with the driver 0. */
    static GearBench jammed() {
        GearBench x = Check.built("p20,20;p30,20;p25,29;g0.0=5;g1.0=5;d0");
        x.set(1);
        x.putGear(2, 0, 5);
        return x;
    }

    /** Gears of 7 on the pegs 0 and 1, 13 apart, that meshed with a play of 1 and overlap now, as play is 0. */
    static GearBench overlapping() {
        GearBench x = Check.built("p20,20;p33,20;p50,50;g0.0=7");
        x.set(1);
        x.putGear(1, 0, 7);
        x.set(0);
        return x;
    }

    /** Gears of one tooth within rings, eight times; the first or the last one of nine pegs is the driver. */
    static GearBench longTrain(boolean firstDrives) {
        GearBench bench = new GearBench();
        bench.set(3);
        bench.addPeg(LONG_X[0], LONG_Y[0]);
        for (int peg = 1; peg <= 8; peg++) {
            int level = (peg - 1) % 2;
            bench.addPeg(LONG_X[peg], LONG_Y[peg]);
            bench.putGear(peg - 1, level, 1);
            bench.putRing(peg, level, LONG_RINGS[peg - 1]);
        }
        bench.drive(firstDrives ? 0 : 8);
        return bench;
    }
}
