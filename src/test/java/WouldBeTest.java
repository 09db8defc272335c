import java.util.function.Supplier;

/** Promises 22 to 26: what would be, and the digest. */
final class WouldBeTest {
    private static final Check CHECK = new Check("WouldBeTest");
    private static final Class<IllegalArgumentException> ARGUMENT = Check.ARGUMENT;
    private static final Class<IndexOutOfBoundsException> INDEX = Check.INDEX;

    public static void main(String[] args) {
        CHECK.test("promise 22: if put", WouldBeTest::promise22IfPut);
        CHECK.test("promise 22: without goal or driver", WouldBeTest::promise22WithoutGoalOrDriver);
        CHECK.test("promise 23: solution", WouldBeTest::promise23Solution);
        CHECK.test("promise 23: order", WouldBeTest::promise23Order);
        CHECK.test("promise 24: culprit", WouldBeTest::promise24Culprit);
        CHECK.test("promise 25: turning share", WouldBeTest::promise25TurningShare);
        CHECK.test("promise 26: digest", WouldBeTest::promise26Digest);
        CHECK.end();
    }

    private static void wouldBe(GearBench x, int peg, int level, int teeth, int... due) {
        long before = x.digest();
        for (int what = 0; what < due.length; what++) {
            CHECK.equal("22 ifPut(" + peg + ", " + level + ", " + teeth + ", " + what + ")",
                    x.ifPut(peg, level, teeth, what), due[what]);
        }
        CHECK.equal("22 nothing is changed", x.digest(), before);
    }

    private static void promise22IfPut() {
        GearBench x = Check.built("p20,20;p30,20;p40,20;g0.0=5;g2.0=5;d0");
        x.goal(2, 1, 1);
        wouldBe(x, 1, 0, 5, 2, 0, 3, 1);
        wouldBe(x, 1, 0, 4, 0, 0, 1, 0);
        wouldBe(x, 1, 0, 6, -1, 0, 1, 0);
        wouldBe(x, 1, 1, 5, 0, 0, 1, 0);
        wouldBe(x, 0, 0, 0, 0, 0, 1, 0);
        x.putGear(1, 0, 5);
        wouldBe(x, 1, 0, 0, 0, 0, 1, 0);
        wouldBe(x, 1, 0, 5, 2, 0, 3, 1);
        wouldBe(x, 0, 0, 20, -1, 0, 1, 0);
        x.putGear(0, 1, 4);
        wouldBe(x, 1, 1, 6, 1, 1, 3, 0);
        wouldBe(x, 1, 1, 7, -1, 0, 3, 1);
        x.goal(2, 0, 1);
        wouldBe(x, 1, 1, 6, 1, 1, 3, 1);
        wouldBe(x, 1, 0, 0, 0, 0, 1, 1);
        x.addPeg(34, 20);
        x.putGear(1, 0, 0);
        x.putGear(0, 0, 0);
        wouldBe(x, 3, 0, 5, -1, 0, 1, 1);
        GearBench ring = Check.built("p20,20;p30,20;r0.0=15;r1.0=7;d0");
        wouldBe(ring, 1, 0, 5, 1, 0, 2, 0);
        wouldBe(ring, 1, 0, 20, -1, 0, 1, 0);
        CHECK.refused("22 no such peg", ring, INDEX, () -> ring.ifPut(2, 2, 21, 4));
        CHECK.refused("22 peg -1", ring, INDEX, () -> ring.ifPut(-1, 0, 0, 0));
        CHECK.refused("22 level 2", ring, ARGUMENT, () -> ring.ifPut(0, 2, 0, 0));
        CHECK.refused("22 level -1", ring, ARGUMENT, () -> ring.ifPut(0, -1, 0, 0));
        CHECK.refused("22 teeth 21", ring, ARGUMENT, () -> ring.ifPut(0, 0, 21, 0));
        CHECK.refused("22 teeth -1", ring, ARGUMENT, () -> ring.ifPut(0, 0, -1, 0));
        CHECK.refused("22 what 4", ring, ARGUMENT, () -> ring.ifPut(0, 0, 0, 4));
        CHECK.refused("22 what -1", ring, ARGUMENT, () -> ring.ifPut(0, 0, 0, -1));
    }

    private static void promise22WithoutGoalOrDriver() {
        GearBench x = Check.built("p20,20;p30,20;g0.0=5;g0.1=4;g1.1=6");
        wouldBe(x, 1, 0, 5, 1, 0, 0, 0);
        x.goal(1, 0, 1);
        wouldBe(x, 1, 0, 5, 1, 0, 0, 0);
        x.undo();
        x.drive(0);
        wouldBe(x, 1, 0, 5, 1, 1, 2, 0);
    }

    private static void solutions(GearBench x, int peg, int level, int teeth) {
        long before = x.digest();
        CHECK.equal("23 its peg", x.solution(0), peg);
        CHECK.equal("23 its level", x.solution(1), level);
        CHECK.equal("23 its teeth", x.solution(2), teeth);
        CHECK.equal("23 nothing is changed", x.digest(), before);
    }

    private static void promise23Solution() {
        GearBench x = Check.built("p20,20;p30,20;p40,20;g0.0=5;g2.0=5;d0");
        solutions(x, -1, -1, -1);
        x.goal(2, 1, 1);
        solutions(x, 1, 0, 5);
        x.putGear(1, 0, 5);
        solutions(x, -1, -1, -1);
        x.goal(2, 7, 3);
        solutions(x, -1, -1, -1);
        x.goal(2, 0, 1);
        solutions(x, 0, 0, 0);
        x.goal(0, 0, 1);
        solutions(x, -1, -1, -1);
        CHECK.refused("23 what 3", x, ARGUMENT, () -> x.solution(3));
        CHECK.refused("23 what -1", x, ARGUMENT, () -> x.solution(-1));
        CHECK.equal("23 no pegs", new GearBench().solution(0), -1);
        GearBench still = Check.built("p20,20;p30,20;g0.0=5");
        still.goal(1, -1, 1);
        solutions(still, -1, -1, -1);
        still.goal(1, 0, 1);
        solutions(still, -1, -1, -1);
    }

    private static void promise23Order() {
        GearBench ring = Check.built("p20,20;p30,20;r0.0=15;g0.1=4;r1.0=7;d0");
        ring.goal(1, 3, 1);
        solutions(ring, 1, 0, 5);
        ring.goal(1, -2, 3);
        solutions(ring, 1, 1, 6);
        GearBench first = Check.built("p20,20;p30,20;g1.1=5;g1.0=5;d0");
        first.goal(1, -1, 1);
        solutions(first, 0, 0, 5);
        first.putRing(0, 0, 6 + 20);
        first.putGear(1, 0, 0);
        solutions(first, 0, 1, 5);
        GearBench jam = Check.built("p20,20;p30,20;g0.0=5;g1.0=5;g0.1=4;g1.1=6;d0");
        jam.goal(1, -2, 3);
        solutions(jam, 0, 0, 0);
        jam.goal(1, -1, 1);
        solutions(jam, 0, 1, 0);
        GearBench play = Check.built("p20,20;p30,20;g0.0=5;d0");
        play.set(3);
        play.goal(1, -5, 6);
        solutions(play, 1, 0, 6);
        play.goal(1, -5, 8);
        solutions(play, 1, 0, 8);
        play.goal(1, -5, 9);
        solutions(play, -1, -1, -1);
    }

    private static void promise24Culprit() {
        CHECK.equal("24 no pegs", new GearBench().culprit(), -1);
        GearBench x = Check.built("p20,20;p30,20;g0.0=5;g1.0=5;g0.1=4;d0");
        CHECK.equal("24 no jam", x.culprit(), -1);
        x.putGear(1, 1, 6);
        CHECK.equal("24 the driver would be alone", x.culprit(), -1);
        x.addPeg(10, 20);
        x.putGear(2, 0, 5);
        CHECK.equal("24 the lowest but the driver", x.culprit(), 1);
        x.drive(1);
        CHECK.equal("24 another driver", x.culprit(), -1);
        x.drive(2);
        CHECK.equal("24 of 0 and 1, 1 leaves one joined", x.culprit(), 1);
        GearBench two = Check.built("p20,20;p30,20;p40,20;p50,20;g0.0=5;g1.0=5;g0.1=4;g1.1=6",
                "g2.0=5;g3.0=5;g2.1=3;g3.1=7;d1");
        CHECK.equal("24 by one of two jams", two.culprit(), -1);
        long before = two.digest();
        two.culprit();
        CHECK.equal("24 nothing is changed", two.digest(), before);
        two.putGear(3, 1, 0);
        CHECK.equal("24 of one jam", two.culprit(), 0);
    }

    private static void promise25TurningShare() {
        CHECK.equal("25 no pegs", new GearBench().turningShare(), 0.0);
        GearBench x = Check.built("p20,20;p30,20;p40,20;g0.0=5;g1.0=5");
        CHECK.equal("25 no driver", x.turningShare(), 0.0);
        x.drive(0);
        CHECK.equal("25 two of three", x.turningShare(), 2.0 / 3.0);
        x.putGear(2, 0, 5);
        CHECK.equal("25 all", x.turningShare(), 1.0);
        x.drive(2);
        x.putGear(1, 0, 0);
        CHECK.equal("25 the driver alone", x.turningShare(), 1.0 / 3.0);
        x.putGear(1, 0, 5);
        x.putGear(0, 1, 4);
        x.putGear(1, 1, 6);
        CHECK.equal("25 jam", x.turningShare(), 0.0);
    }

    /** Shares of all sizes, that are 1 to 9 pegs by 0 to 9 that turn, and their bits. */
    private static void promise26Digest() {
        for (int pegs = 0; pegs <= 9; pegs++) {
            for (int turning = 0; turning <= pegs; turning++) {
                int all = pegs;
                int some = turning;
                digestOf(() -> rowOf(all, some), 0, "");
            }
        }
        digestOf(WouldBeTest::almostJammed, 0, "");
        digestOf(() -> typed(almostJammed()), 0, "p1,~!");
        digestOf(() -> {
            GearBench x = typed(almostJammed());
            x.putGear(1, 1, 6);
            x.set(2);
            return x;
        }, 2, "p1,~!");
        digestOf(() -> {
            GearBench reached = Check.built("p20,20;p30,20;p40,20;g0.0=5;g2.0=5;d0");
            reached.goal(2, 1, 1);
            return reached;
        }, 0, "");
    }

    private static GearBench almostJammed() {
        GearBench x = Check.built("p20,20;p30,20;p40,20;g0.0=5;g1.0=5;g0.1=4;d0;r2.1=40");
        x.goal(1, -3, 2);
        return x;
    }

    private static GearBench typed(GearBench x) {
        Check.type(x, "p1,~!");
        return x;
    }

    private static GearBench rowOf(int pegs, int turning) {
        GearBench x = new GearBench();
        for (int peg = 0; peg < pegs; peg++) {
            x.addPeg(2 * peg, 0);
            if (peg < turning) {
                x.putGear(peg, 0, 1);
            }
        }
        if (turning > 0) {
            x.drive(0);
        }
        return x;
    }

    private static void digestOf(Supplier<GearBench> recipe, int play, String buffer) {
        long due = digestByLooks(recipe, play, buffer);
        GearBench x = recipe.get();
        CHECK.equal("26 digest()", x.digest(), due);
        CHECK.equal("26 digest() again", x.digest(), due);
    }

    /** As promise 26 lists it; no look tells the play and the buffer. No object is asked more than 512 times. */
    private static long digestByLooks(Supplier<GearBench> recipe, int play, String buffer) {
        GearBench x = recipe.get();
        int pegs = x.count(0);
        long hash = 2753;
        for (int what = 0; what <= 10; what++) {
            hash = 31 * hash + x.count(what);
        }
        hash = 31 * hash + play;
        for (int peg = 0; peg < pegs; peg++) {
            for (int what = 0; what <= 8; what++) {
                hash = 31 * hash + x.peg(peg, what);
            }
            hash = 31 * hash + x.speed(peg, 0);
            hash = 31 * hash + x.speed(peg, 1);
        }
        for (int one = 0; one < pegs; one++) {
            GearBench pairs = recipe.get();
            for (int other = 0; other < pegs; other++) {
                hash = 31 * hash + pairs.meshes(one, other);
                for (int what = 0; what <= 3; what++) {
                    hash = 31 * hash + pairs.train(one, other, what);
                }
                hash = 31 * hash + pairs.ratio(one, other, 0);
                hash = 31 * hash + pairs.ratio(one, other, 1);
            }
        }
        hash = 31 * hash + x.marks();
        for (int what = 0; what <= 2; what++) {
            hash = 31 * hash + x.solution(what);
        }
        hash = 31 * hash + x.culprit();
        hash = 31 * hash + Double.doubleToLongBits(x.turningShare());
        hash = 31 * hash + buffer.length();
        for (int i = 0; i < buffer.length(); i++) {
            hash = 31 * hash + buffer.charAt(i);
        }
        return hash;
    }
}
