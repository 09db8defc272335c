/** Promises 1 to 9: the bench. */
final class BenchTest {
    private static final Check CHECK = new Check("BenchTest");
    private static final Class<IllegalArgumentException> ARGUMENT = Check.ARGUMENT;
    private static final Class<IllegalStateException> STATE = Check.STATE;
    private static final Class<IndexOutOfBoundsException> INDEX = Check.INDEX;

    public static void main(String[] args) {
        CHECK.test("promise 1: new object", BenchTest::promise1NewObject);
        CHECK.test("promise 2: add peg", BenchTest::promise2AddPeg);
        CHECK.test("promise 3: put gear", BenchTest::promise3PutGear);
        CHECK.test("promise 3: gears and play", BenchTest::promise3GearsAndPlay);
        CHECK.test("promise 4: put ring", BenchTest::promise4PutRing);
        CHECK.test("promise 4: rings and play", BenchTest::promise4RingsAndPlay);
        CHECK.test("promise 5: move", BenchTest::promise5Move);
        CHECK.test("promise 6: flip", BenchTest::promise6Flip);
        CHECK.test("promise 7: drive", BenchTest::promise7Drive);
        CHECK.test("promise 8: goal", BenchTest::promise8Goal);
        CHECK.test("promise 9: set", BenchTest::promise9Set);
        CHECK.end();
    }

    private static void promise1NewObject() {
        GearBench x = new GearBench();
        CHECK.equal("1 NONE", GearBench.NONE, -1);
        int[] due = {0, 0, 0, 0, -1, 0, 0, -1, 0, 0, 0};
        for (int what = 0; what < due.length; what++) {
            CHECK.equal("1 count(" + what + ")", x.count(what), due[what]);
        }
        CHECK.equal("1 clearBuffer()", x.clearBuffer(), 0);
        CHECK.equal("1 set(0)", x.set(0), 0);
        CHECK.equal("1 two objects are apart", new GearBench().count(10), 0);
    }

    private static void promise2AddPeg() {
        GearBench x = new GearBench();
        CHECK.refused("2 addPeg(-1, 0)", x, ARGUMENT, () -> x.addPeg(-1, 0));
        CHECK.refused("2 addPeg(61, 0)", x, ARGUMENT, () -> x.addPeg(61, 0));
        CHECK.refused("2 addPeg(0, -1)", x, ARGUMENT, () -> x.addPeg(0, -1));
        CHECK.refused("2 addPeg(0, 61)", x, ARGUMENT, () -> x.addPeg(0, 61));
        CHECK.equal("2 addPeg(0, 0)", x.addPeg(0, 0), 0);
        CHECK.equal("2 addPeg(60, 60)", x.addPeg(60, 60), 1);
        CHECK.equal("2 addPeg(0, 60)", x.addPeg(0, 60), 2);
        CHECK.refused("2 addPeg at the same place", x, STATE, () -> x.addPeg(60, 60));
        CHECK.equal("2 x", x.peg(2, 0), 0);
        CHECK.equal("2 y", x.peg(2, 1), 60);
        for (int peg = 3; peg < 9; peg++) {
            CHECK.equal("2 addPeg", x.addPeg(peg, peg), peg);
        }
        CHECK.equal("2 count(0)", x.count(0), 9);
        CHECK.equal("2 count(10)", x.count(10), 6);
        CHECK.refused("2 a tenth peg", x, STATE, () -> x.addPeg(20, 20));
        CHECK.refused("2 a tenth peg out of range", x, ARGUMENT, () -> x.addPeg(61, 20));
        x.putGear(8, 0, 1);
        x.undo();
        x.undo();
        CHECK.equal("2 nothing is on a peg that comes again", x.addPeg(30, 30), 8);
        CHECK.equal("2 nothing on level 0", x.peg(8, 4), 0);
    }

    private static void promise3PutGear() {
        GearBench x = Check.built("p10,10;p18,10;p10,18;p40,40");
        CHECK.refused("3 no such peg", x, INDEX, () -> x.putGear(4, 9, 99));
        CHECK.refused("3 peg -1", x, INDEX, () -> x.putGear(-1, 0, 1));
        CHECK.refused("3 level -1", x, ARGUMENT, () -> x.putGear(0, -1, 1));
        CHECK.refused("3 level 2", x, ARGUMENT, () -> x.putGear(0, 2, 1));
        CHECK.refused("3 teeth -1", x, ARGUMENT, () -> x.putGear(0, 0, -1));
        CHECK.refused("3 teeth 21", x, ARGUMENT, () -> x.putGear(0, 0, 21));
        CHECK.equal("3 the first gear", x.putGear(1, 0, 5), 0);
        CHECK.equal("3 another level", x.putGear(2, 1, 5), 0);
        CHECK.equal("3 meshes with one, on this level only", x.putGear(0, 0, 3), 1);
        CHECK.equal("3 meshes with one, on the other level", x.putGear(0, 1, 3), 1);
        CHECK.equal("3 on either level", x.peg(0, 6), 2);
        CHECK.equal("3 a third one on level 0", x.putGear(2, 0, 5), 1);
        CHECK.equal("3 meshes with two", x.putGear(0, 0, 3), 2);
        CHECK.refused("3 one more tooth overlaps", x, STATE, () -> x.putGear(0, 0, 4));
        CHECK.equal("3 a lesser one stands alone", x.putGear(0, 0, 2), 0);
        CHECK.equal("3 it is there in place of the other", x.peg(0, 2), 2);
        CHECK.equal("3 the greatest", x.putGear(3, 0, 20), 0);
        CHECK.equal("3 taken away", x.putGear(0, 0, 0), 0);
        CHECK.equal("3 nothing there", x.peg(0, 4), 0);
        CHECK.equal("3 no teeth there", x.peg(0, 2), 0);
        CHECK.equal("3 taken away from an empty level", x.putGear(0, 0, 0), 0);
        x.undo();
        x.undo();
        CHECK.equal("3 undone", x.peg(0, 2), 2);
        CHECK.equal("3 a gear in place of a ring", withRing().putGear(0, 0, 2), 0);
    }

    private static GearBench withRing() {
        return Check.built("p10,10;r0.0=30;p15,10");
    }

    /** Distance 5 by the roots 3 and 4; the sum of the teeth from 8 to 2, with each play. */
    private static void promise3GearsAndPlay() {
        for (int play = 0; play <= 3; play++) {
            for (int sum = 2; sum <= 12; sum++) {
                GearBench x = Check.built("p10,10;p13,14;g0.0=1");
                x.set(play);
                int teeth = sum - 1;
                String what = "3 play " + play + " sum " + sum;
                if (5 < sum - play) {
                    CHECK.refused(what, x, STATE, () -> x.putGear(1, 0, teeth));
                } else {
                    CHECK.equal(what, x.putGear(1, 0, teeth), 5 <= sum + play ? 1 : 0);
                }
            }
        }
        GearBench near = Check.built("p10,10;p10,11;g0.0=1");
        near.set(3);
        CHECK.equal("3 a sum less than the play", near.putGear(1, 0, 1), 1);
        GearBench odd = Check.built("p10,10;p17,11;g0.0=4");
        CHECK.equal("3 root of 50 is above 7", odd.putGear(1, 0, 3), 0);
        CHECK.refused("3 root of 50 is below 8", odd, STATE, () -> odd.putGear(1, 0, 4));
        odd.set(1);
        CHECK.equal("3 with play it meshes", odd.putGear(1, 0, 4), 1);
    }

    private static void promise4PutRing() {
        GearBench x = Check.built("p30,30;p40,30;p5,5;g1.0=5");
        CHECK.refused("4 no such peg", x, INDEX, () -> x.putRing(3, 2, 5));
        CHECK.refused("4 peg -1", x, INDEX, () -> x.putRing(-1, 0, 6));
        CHECK.refused("4 level -1", x, ARGUMENT, () -> x.putRing(0, -1, 6));
        CHECK.refused("4 level 2", x, ARGUMENT, () -> x.putRing(0, 2, 6));
        CHECK.refused("4 teeth 5", x, ARGUMENT, () -> x.putRing(0, 0, 5));
        CHECK.refused("4 teeth 0", x, ARGUMENT, () -> x.putRing(0, 0, 0));
        CHECK.refused("4 teeth 41", x, ARGUMENT, () -> x.putRing(0, 0, 41));
        CHECK.equal("4 meshes from within", x.putRing(0, 0, 15), 1);
        CHECK.equal("4 is a ring", x.peg(0, 4), 2);
        CHECK.equal("4 its teeth", x.peg(0, 2), 15);
        CHECK.equal("4 the gear is free within", x.putRing(0, 0, 16), 0);
        CHECK.refused("4 the gear would cut the ring", x, STATE, () -> x.putRing(0, 0, 14));
        CHECK.refused("4 still", x, STATE, () -> x.putRing(0, 0, 6));
        CHECK.equal("4 two rings do nothing", x.putRing(1, 1, 40) + x.putRing(0, 1, 6), 0);
        CHECK.equal("4 count(2)", x.count(2), 3);
        CHECK.equal("4 no overlap of rings", x.count(9), 0);
        x.putRing(2, 0, 6);
        x.undo();
        CHECK.equal("4 undone", x.peg(2, 4), 0);
        GearBench two = Check.built("p30,30;p40,30;p20,30;g1.0=5;g2.0=5;g0.0=5");
        CHECK.equal("4 meshes with two, in place of a gear", two.putRing(0, 0, 15), 2);
    }

    /** A gear of 4 teeth, at each distance from a ring of 10 teeth, with each play. */
    private static void promise4RingsAndPlay() {
        for (int play = 0; play <= 3; play++) {
            for (int distance = 1; distance <= 20; distance++) {
                GearBench x = Check.built("p10,10;g0.0=4");
                x.addPeg(10 + distance, 10);
                x.set(play);
                String what = "4 play " + play + " distance " + distance;
                if (distance < 14 && distance > 6 + play) {
                    CHECK.refused(what, x, STATE, () -> x.putRing(1, 0, 10));
                } else {
                    boolean meshes = distance >= 6 - play && distance <= 6 + play;
                    CHECK.equal(what, x.putRing(1, 0, 10), meshes ? 1 : 0);
                }
            }
        }
        GearBench alike = Check.built("p10,10;g0.0=8;p11,10;p26,10");
        alike.set(3);
        CHECK.refused("4 a ring as great as the gear", alike, STATE, () -> alike.putRing(1, 0, 8));
        CHECK.refused("4 a ring less than the gear", alike, STATE, () -> alike.putRing(1, 0, 7));
        CHECK.equal("4 a ring greater by one", alike.putRing(1, 0, 9), 1);
        CHECK.equal("4 beside it", alike.putRing(2, 0, 8), 0);
        GearBench far = Check.built("p10,10;g0.0=8;p26,10;r1.0=8");
        CHECK.equal("4 outside, a ring as great as the gear does not mesh", far.meshes(0, 1), 0);
    }

    private static void promise5Move() {
        GearBench x = Check.built("p10,10;p20,10;p40,40;g0.0=5;g1.0=5;g1.1=3;g2.1=4;g2.0=1");
        CHECK.refused("5 no such peg", x, INDEX, () -> x.move(3, 61, 61));
        CHECK.refused("5 peg -1", x, INDEX, () -> x.move(-1, 0, 0));
        CHECK.refused("5 x 61", x, ARGUMENT, () -> x.move(0, 61, 0));
        CHECK.refused("5 x -1", x, ARGUMENT, () -> x.move(0, -1, 0));
        CHECK.refused("5 y 61", x, ARGUMENT, () -> x.move(0, 0, 61));
        CHECK.refused("5 y -1", x, ARGUMENT, () -> x.move(0, 0, -1));
        CHECK.refused("5 another peg is there", x, STATE, () -> x.move(2, 20, 10));
        CHECK.equal("5 to its own place", x.move(0, 10, 10), 1);
        CHECK.equal("5 meshes on level 1", x.move(2, 20, 17), 1);
        CHECK.equal("5 moved with all on it", x.peg(2, 1), 17);
        CHECK.equal("5 all on it", x.peg(2, 2) * 100 + x.peg(2, 3), 104);
        CHECK.refused("5 overlap on level 1", x, STATE, () -> x.move(2, 26, 10));
        CHECK.refused("5 overlap on level 0", x, STATE, () -> x.move(2, 13, 14));
        CHECK.equal("5 to a corner", x.move(2, 60, 60), 0);
        CHECK.equal("5 undo", x.undo(), 3);
        CHECK.equal("5 undone", x.peg(2, 0), 20);
        GearBench two = Check.built("p10,10;p20,10;p40,40;g0.0=5;g1.1=5;g2.0=5;g2.1=5");
        CHECK.equal("5 two pegs are near", two.move(2, 15, 19), 0);
        two.set(1);
        CHECK.equal("5 two pegs on unlike levels, with play", two.move(2, 15, 19), 2);
        GearBench both = Check.built("p10,10;p20,10;g0.0=5;g0.1=5;g1.0=5;g1.1=5");
        CHECK.equal("5 one peg on both levels", both.move(1, 10, 20), 1);
    }

    private static void promise6Flip() {
        GearBench cut = Check.built("p10,10;p20,10;g0.0=5;r1.1=6");
        CHECK.refused("6 no such peg", cut, INDEX, () -> cut.flip(2));
        CHECK.refused("6 peg -1", cut, INDEX, () -> cut.flip(-1));
        CHECK.refused("6 overlaps on level 0", cut, STATE, () -> cut.flip(1));
        CHECK.refused("6 overlaps on level 1", cut, STATE, () -> cut.flip(0));
        GearBench free = Check.built("p10,10;p20,10;g0.0=5;g1.1=5;g0.1=4");
        CHECK.equal("6 meshes on level 0", free.flip(1), 1);
        CHECK.equal("6 it is on level 0", free.peg(1, 2), 5);
        CHECK.equal("6 nothing on level 1", free.peg(1, 5), 0);
        CHECK.equal("6 back", free.flip(1), 0);
        free.putRing(1, 0, 20);
        CHECK.equal("6 a ring and a gear", free.flip(1) * 100 + free.peg(1, 4) * 10 + free.peg(1, 5), 112);
        free.undo();
        CHECK.equal("6 undone", free.peg(1, 4), 2);
        GearBench both = Check.built("p10,10;p20,10;g0.0=4;g0.1=5;g1.0=5;g1.1=4");
        both.set(1);
        CHECK.equal("6 one peg on both levels", both.flip(1), 1);
        CHECK.equal("6 an empty peg", Check.built("p1,1").flip(0), 0);
    }

    private static void promise7Drive() {
        GearBench x = Check.built("p10,10;p20,10");
        CHECK.refused("7 no such peg", x, INDEX, () -> x.drive(2));
        CHECK.refused("7 peg -1", x, INDEX, () -> x.drive(-1));
        CHECK.equal("7 none before", x.drive(1), -1);
        CHECK.equal("7 the one before", x.drive(0), 1);
        CHECK.equal("7 the same", x.drive(0), 0);
        CHECK.equal("7 count(4)", x.count(4), 0);
        x.undo();
        x.undo();
        CHECK.equal("7 undone", x.count(4), 1);
        x.undo();
        CHECK.equal("7 none again", x.count(4), -1);
    }

    private static void promise8Goal() {
        GearBench x = Check.built("p10,10;p20,10;p50,50;g0.0=4;g1.0=6");
        CHECK.refused("8 no such peg", x, INDEX, () -> x.goal(3, 100, 0));
        CHECK.refused("8 peg -1", x, INDEX, () -> x.goal(-1, 0, 1));
        CHECK.refused("8 numerator -100", x, ARGUMENT, () -> x.goal(0, -100, 1));
        CHECK.refused("8 numerator 100", x, ARGUMENT, () -> x.goal(0, 100, 1));
        CHECK.refused("8 denominator 0", x, ARGUMENT, () -> x.goal(0, 1, 0));
        CHECK.refused("8 denominator 100", x, ARGUMENT, () -> x.goal(0, 1, 100));
        CHECK.equal("8 the least numerator", x.goal(0, -99, 1), 0);
        CHECK.equal("8 the greatest numerator", x.goal(0, 99, 1), 0);
        CHECK.equal("8 of 0, nothing turns", x.goal(1, 0, 99), 1);
        CHECK.equal("8 nothing turns", x.goal(1, -2, 3), 0);
        x.drive(0);
        CHECK.equal("8 reached by driving", x.count(8), 1);
        CHECK.equal("8 not shortened", x.goal(1, -66, 99), 1);
        CHECK.equal("8 the other direction", x.goal(1, 2, 3), 0);
        CHECK.equal("8 the driver", x.goal(0, 99, 99), 1);
        CHECK.equal("8 of 0, not joined", x.goal(2, 0, 7), 1);
        CHECK.equal("8 of 0, it turns", x.goal(0, 0, 1), 0);
        CHECK.equal("8 count(7)", x.count(7), 0);
        x.undo();
        CHECK.equal("8 undone", x.count(7) * 10 + x.count(8), 21);
        x.undo();
        x.undo();
        x.undo();
        x.undo();
        CHECK.equal("8 undone to the goal before", x.count(7) * 10 + x.count(8), 11);
        x.undo();
        CHECK.equal("8 undone to no driver", x.count(7) * 10 + x.count(8), 10);
    }

    private static void promise9Set() {
        GearBench x = Check.built("p10,10;p20,10;g0.0=5");
        CHECK.refused("9 play -1", x, ARGUMENT, () -> x.set(-1));
        CHECK.refused("9 play 4", x, ARGUMENT, () -> x.set(4));
        CHECK.equal("9 from 0", x.set(3), 0);
        CHECK.equal("9 from 3", x.set(2), 3);
        CHECK.equal("9 meshes with play", x.putGear(1, 0, 7), 1);
        CHECK.equal("9 from 2", x.set(1), 2);
        CHECK.equal("9 overlaps now", x.count(9), 1);
        CHECK.equal("9 does not mesh", x.meshes(0, 1), 0);
        CHECK.equal("9 nothing changed, but saved", x.set(1) * 10 + x.count(10), 16);
        CHECK.refused("9 it cannot be put again", x, STATE, () -> x.putGear(1, 0, 7));
        CHECK.refused("9 nor moved to its place", x, STATE, () -> x.move(0, 10, 10));
        CHECK.refused("9 nor moved there from the other side", x, STATE, () -> x.move(1, 20, 10));
        CHECK.equal("9 other pegs may come", x.addPeg(50, 50), 2);
        CHECK.equal("9 and other gears", x.putGear(2, 0, 3), 0);
        CHECK.equal("9 flipped, it is free", x.flip(1), 0);
        CHECK.equal("9 no overlap", x.count(9), 0);
        x.undo();
        x.undo();
        x.undo();
        x.undo();
        x.undo();
        CHECK.equal("9 undone: the play is 2 again", x.set(0), 2);
    }
}
