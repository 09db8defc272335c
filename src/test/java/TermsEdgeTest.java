/** The boundary cases that the document's "Terms" name, each in a test of its own. */
final class TermsEdgeTest {
    private static final Check CHECK = new Check("TermsEdgeTest");

    public static void main(String[] args) {
        use();
        gears();
        gearsByPlay();
        ringsByPlay();
        ringsThatNeverMesh();
        levels();
        turning();
        jams();
        trains();
        trainsWithEqualRows();
        idlers();
        marks();
        goals();
        settings();
        CHECK.end();
    }

    // ---- What it is

    private static void use() {
        CHECK.test("promises 1 to 26: an object is used for 512 calls", () -> {
            GearBench x = Check.built("p10,10;p20,10;g0.0=5;g1.0=5;d0");
            for (int call = 33; call <= 510; call++) {
                x.drive(call % 2);
            }
            CHECK.equal("the driver after 510 calls", x.count(4), 0);
            CHECK.equal("the 512th call", x.speed(1, 0), -1);
        });
        CHECK.test("promise 16, fractions: fractions are shortened", () -> {
            GearBench x = Check.built("p20,20;p30,20;g0.0=4;g1.0=6;d0");
            CHECK.equal("numerator", x.speed(1, 0), -2);
            CHECK.equal("denominator", x.speed(1, 1), 3);
        });
        CHECK.test("promise 16, fractions: a fraction below 0 has its denominator above 0", () -> {
            GearBench x = Check.built("p20,20;p30,20;g0.0=3;g1.0=7;d0");
            CHECK.equal("denominator of the speed", x.speed(1, 1), 7);
            CHECK.equal("denominator of the ratio", x.ratio(1, 0, 1), 3);
        });
        CHECK.test("promise 16, fractions: 0 is 0 by 1", () -> {
            GearBench x = Check.built("p20,20;p30,20;g0.0=3;g1.0=6;d0");
            CHECK.equal("numerator of the speed", x.speed(1, 0), 0);
            CHECK.equal("denominator of the speed", x.speed(1, 1), 1);
            CHECK.equal("numerator of the ratio", x.ratio(0, 1, 0), 0);
            CHECK.equal("denominator of the ratio", x.ratio(0, 1, 1), 1);
        });
    }

    // ---- Pegs, gears

    /** Whether a gear of 5 can be put beside another one, and meshes: 1, 0, or -1 if it would overlap. */
    private static int gear(GearBench x, int first, int second) {
        x.putGear(0, 0, first);
        return x.ifPut(1, 0, second, 0);
    }

    private static int ring(GearBench x, int gear, int ring) {
        x.putRing(1, 0, ring);
        return x.ifPut(0, 0, gear, 0);
    }

    private static void gears() {
        CHECK.answers("promise 3, gears: root of 80 is less than 9: they overlap", -1,
                () -> gear(Benches.two(8, 4, 0), 4, 5));
        CHECK.answers("promise 3, gears: root of 81 is 9: they mesh", 1, () -> gear(Benches.two(9, 0, 0), 4, 5));
        CHECK.answers("promise 3, gears: root of 82 is more than 9: neither", 0,
                () -> gear(Benches.two(9, 1, 0), 4, 5));
        CHECK.answers("promise 3, gears: an oblique distance that is whole", 1,
                () -> gear(Benches.two(-3, 4, 0), 2, 3));
        CHECK.answers("promise 3, gears: the least two, side by side", 0, () -> gear(Benches.two(1, 2, 0), 1, 1));
        CHECK.answers("promise 3, gears: the least two overlap at a distance of 1", -1,
                () -> gear(Benches.two(0, 1, 0), 1, 1));
        CHECK.answers("promise 3, gears: the greatest two mesh at 40", 1, () -> gear(Benches.two(40, 0, 0), 20, 20));
        CHECK.answers("promise 3, gears: the greatest two overlap at 39", -1,
                () -> gear(Benches.two(39, 0, 0), 20, 20));
        CHECK.answers("promise 3, gears: the greatest two, far away", 0, () -> gear(Benches.two(40, 40, 3), 20, 20));
    }

    private static void gearsByPlay() {
        for (int play = 1; play <= 3; play++) {
            GearBench low = Benches.two(9, 0, play);
            GearBench lower = Benches.two(8, 4, play);
            GearBench high = Benches.two(0, 9, play);
            GearBench higher = Benches.two(1, 9, play);
            int over = 5 + play;
            int under = 5 - play;
            String with = "promise 3, gears: with a play of " + play;
            CHECK.answers(with + ", a + b less the play is the distance", 1, () -> gear(low, 4, over));
            CHECK.answers(with + ", a + b less the play is just more", -1, () -> gear(lower, 4, over));
            CHECK.answers(with + ", a + b and the play are the distance", 1, () -> gear(high, 4, under));
            CHECK.answers(with + ", a + b and the play are just less", 0, () -> gear(higher, 4, under));
        }
        CHECK.answers("promise 3, gears: a + b less the play is less than 0", 1,
                () -> gear(Benches.two(1, 0, 3), 1, 1));
        CHECK.answers("promise 3, gears: a + b less the play is 0", 1, () -> gear(Benches.two(1, 0, 2), 1, 1));
        CHECK.answers("promise 3, gears: a + b less the play is 1", 1, () -> gear(Benches.two(1, 0, 1), 1, 1));
    }

    private static void ringsByPlay() {
        for (int play = 0; play <= 3; play++) {
            GearBench low = Benches.two(9, 0, play);
            GearBench lower = Benches.two(8, 4, play);
            GearBench high = Benches.two(0, 9, play);
            GearBench higher = Benches.two(1, 9, play);
            int over = 14 + play;
            int under = 14 - play;
            String with = "promise 4, rings: with a play of " + play;
            CHECK.answers(with + ", b - a less the play is the distance", 1, () -> ring(low, 5, over));
            CHECK.answers(with + ", b - a less the play is just more: within", 0, () -> ring(lower, 5, over));
            CHECK.answers(with + ", b - a and the play are the distance", 1, () -> ring(high, 5, under));
            CHECK.answers(with + ", b - a and the play are just less", -1, () -> ring(higher, 5, under));
        }
        CHECK.answers("promise 4, rings: b - a less the play is at least 0", 1,
                () -> ring(Benches.two(1, 0, 3), 8, 9));
        CHECK.answers("promise 4, rings: b - a less the play is 0", 1, () -> ring(Benches.two(1, 0, 2), 7, 9));
        CHECK.answers("promise 4, rings: root of 193 is less than a + b: they overlap", -1,
                () -> ring(Benches.two(12, 7, 0), 4, 10));
        CHECK.answers("promise 4, rings: the root is a + b: a gear outside of it", 0,
                () -> ring(Benches.two(14, 0, 0), 4, 10));
        CHECK.answers("promise 4, rings: play does not let them overlap outside", -1,
                () -> ring(Benches.two(13, 0, 3), 4, 10));
        CHECK.answers("promise 4, rings: play does not let them mesh outside", 0,
                () -> ring(Benches.two(14, 0, 3), 4, 10));
        CHECK.answers("promise 4, rings: meshing by play, farther than a + b", 1,
                () -> ring(Benches.two(8, 0, 3), 1, 6));
        CHECK.answers("promise 4, rings: the greatest ring and the least gear", 1,
                () -> ring(Benches.two(39, 0, 0), 1, 40));
        CHECK.answers("promise 4, rings: a gear deep within", 0, () -> ring(Benches.two(1, 1, 0), 3, 20));
    }

    private static void ringsThatNeverMesh() {
        CHECK.answers("promise 4, rings: b is as great as a: they overlap within", -1,
                () -> ring(Benches.two(1, 0, 3), 8, 8));
        CHECK.answers("promise 4, rings: b is as great as a: they overlap at less than a + b", -1,
                () -> ring(Benches.two(15, 0, 0), 8, 8));
        CHECK.answers("promise 4, rings: b is as great as a: neither at a + b", 0,
                () -> ring(Benches.two(16, 0, 0), 8, 8));
        CHECK.answers("promise 4, rings: b is less than a: they overlap within", -1,
                () -> ring(Benches.two(1, 0, 0), 9, 8));
        CHECK.answers("promise 4, rings: b is less than a: the difference is no mesh", -1,
                () -> ring(Benches.two(12, 0, 0), 20, 8));
        CHECK.answers("promise 4, rings: b is less than a: neither outside", 0,
                () -> ring(Benches.two(28, 0, 3), 20, 8));
        CHECK.answers("promise 4, rings: b is greater than a by one", 1, () -> ring(Benches.two(1, 0, 0), 8, 9));
        for (int distance : new int[] {1, 4, 16}) {
            CHECK.test("promise 4, rings: two rings neither mesh nor overlap, " + distance + " apart", () -> {
                GearBench x = Benches.two(distance, 0, 0);
                x.putRing(0, 0, 6);
                CHECK.equal("meshes with", x.putRing(1, 0, 10), 0);
                CHECK.equal("meshes", x.meshes(0, 1), 0);
                CHECK.equal("overlaps", x.count(9), 0);
            });
        }
        CHECK.test("promise 4, rings: two rings neither mesh nor overlap, also nearer than the play", () -> {
            GearBench x = Benches.two(1, 0, 3);
            x.putRing(0, 0, 7);
            CHECK.equal("meshes with", x.putRing(1, 0, 7), 0);
            CHECK.equal("overlaps", x.count(9), 0);
        });
        CHECK.test("promise 3, pegs: with nothing on it a peg meshes with none, also nearer than the play", () -> {
            GearBench x = Benches.two(1, 0, 3);
            CHECK.equal("two empty pegs", x.meshes(0, 1), 0);
            x.putGear(0, 0, 1);
            CHECK.equal("a gear and an empty peg", x.meshes(0, 1), 0);
            x.putRing(0, 0, 6);
            CHECK.equal("a ring and an empty peg", x.meshes(0, 1), 0);
        });
        CHECK.test("promise 4, rings: a ring meshes in the same way from either side", () -> {
            GearBench x = Benches.two(9, 0, 0);
            x.putRing(0, 0, 14);
            CHECK.equal("gear put second", x.putGear(1, 0, 5), 1);
            GearBench y = Benches.two(9, 0, 0);
            y.putGear(0, 0, 5);
            CHECK.equal("ring put second", y.putRing(1, 0, 14), 1);
        });
    }

    private static void levels() {
        CHECK.test("promise 3, pegs: things on unlike levels neither mesh nor overlap", () -> {
            GearBench x = Benches.two(10, 0, 0);
            x.putGear(0, 0, 5);
            CHECK.equal("it would mesh on level 0", x.putGear(1, 1, 5), 0);
            CHECK.equal("it would overlap on level 0", x.putGear(1, 1, 20), 0);
            CHECK.equal("overlaps", x.count(9), 0);
        });
        CHECK.test("promise 3, pegs: things on one peg neither mesh nor overlap", () -> {
            GearBench x = Check.built("p20,20;g0.0=20;r0.1=40");
            CHECK.equal("meshes with", x.peg(0, 6), 0);
            CHECK.equal("overlaps", x.count(9), 0);
        });
        CHECK.test("promise 3, pegs: all that is on one peg turns together", () -> {
            GearBench x = Check.built("p10,10;p20,10;p30,10;g0.0=4;g1.0=6;g1.1=3;g2.1=7;d0");
            CHECK.equal("numerator behind both levels", x.speed(2, 0), 2);
            CHECK.equal("denominator behind both levels", x.speed(2, 1), 7);
        });
        for (int other = 0; other < 9; other += 8) {
            int near = other;
            CHECK.test("promise 3, pegs: a thing cannot overlap with peg " + other + " alone", () -> {
                GearBench x = Benches.nine();
                x.putGear(near, 0, 4);
                CHECK.throwsJust(Check.STATE, () -> x.putGear(near == 0 ? 1 : 7, 0, 3));
            });
        }
    }

    // ---- Turning

    private static void speed(GearBench x, int peg, long numerator, long denominator) {
        CHECK.equal("numerator of " + peg, x.speed(peg, 0), numerator);
        CHECK.equal("denominator of " + peg, x.speed(peg, 1), denominator);
    }

    private static void turning() {
        CHECK.test("promise 16, turning: the driver alone has the speed 1 by 1",
                () -> speed(Check.built("p1,1;d0"), 0, 1, 1));
        CHECK.test("promise 16, turning: two gears turn against each other", () ->
                speed(Check.built("p20,20;p30,20;g0.0=2;g1.0=8;d0"), 1, -1, 4));
        CHECK.test("promise 16, turning: a ring turns with the gear that drives it", () ->
                speed(Check.built("p20,20;p30,20;g0.0=2;r1.0=12;d0"), 1, 1, 6));
        CHECK.test("promise 16, turning: a gear turns with the ring that drives it", () ->
                speed(Check.built("p20,20;p30,20;g0.0=2;r1.0=12;d1"), 0, 6, 1));
        CHECK.test("promise 16, turning: pegs that are not joined with the driver do not turn", () -> {
            GearBench x = Check.built("p20,20;p30,20;p50,50;p60,50;g0.0=5;g1.0=5;g2.0=5;g3.0=5;d0");
            speed(x, 1, -1, 1);
            speed(x, 2, 0, 1);
            speed(x, 3, 0, 1);
        });
        CHECK.test("promise 16, turning: cut off from the driver, pegs and those behind them turn no more", () -> {
            GearBench x = Check.built("p10,20;p20,20;p30,20;g0.0=5;g1.0=5;g2.0=5;d0");
            speed(x, 2, 1, 1);
            x.move(0, 60, 60);
            speed(x, 1, 0, 1);
            speed(x, 2, 0, 1);
            CHECK.equal("joined", x.count(5), 1);
            CHECK.equal("the last one is joined", x.peg(2, 8), 0);
        });
        CHECK.test("promise 16, turning: if there is no driver, nothing turns", () -> {
            GearBench x = Check.built("p20,20;p30,20;g0.0=5;g1.0=5");
            speed(x, 0, 0, 1);
            speed(x, 1, 0, 1);
        });
    }

    private static void jams() {
        CHECK.test("promise 16, turning: unlike directions by unlike ways are a jam", () ->
                CHECK.equal("count(6)", Benches.jammed().count(6), 1));
        CHECK.test("promise 16, turning: unlike speeds in one direction are a jam", () ->
                CHECK.equal("count(6)", Check.built("p20,20;p30,20;g0.0=5;g1.0=5;g0.1=4;g1.1=6;d0").count(6), 1));
        CHECK.test("promise 16, turning: unlike speeds with like numerators are a jam", () ->
                CHECK.equal("count(6)", Check.built("p20,20;p32,20;g0.0=6;g1.0=6;g0.1=4;g1.1=8;d0").count(6), 1));
        CHECK.test("promise 16, turning: unlike speeds with like denominators are a jam", () ->
                CHECK.equal("count(6)", Check.built("p20,20;p32,20;g0.0=6;g1.0=6;g0.1=8;g1.1=4;d0").count(6), 1));
        CHECK.test("promise 16, turning: in a jam no peg turns, nor the driver", () -> {
            GearBench x = Benches.jammed();
            for (int peg = 0; peg < 3; peg++) {
                speed(x, peg, 0, 1);
            }
        });
        CHECK.test("promise 16, turning: in a jam no peg turns, nor one outside of the ring of gears", () -> {
            GearBench x = Benches.jammed();
            x.addPeg(10, 20);
            CHECK.equal("it meshes", x.putGear(3, 0, 5), 1);
            speed(x, 3, 0, 1);
        });
        CHECK.test("promise 16, turning: like speeds by unlike ways are no jam", () -> {
            GearBench x = Check.built("p20,20;p30,20;p20,30;p30,30;g0.0=5;g1.0=5;g2.0=5;g3.0=5;d0");
            CHECK.equal("count(6)", x.count(6), 0);
            speed(x, 3, 1, 1);
        });
        CHECK.test("promise 16, turning: the same speed on both levels is no jam", () ->
                CHECK.equal("count(6)", Check.built("p20,20;p30,20;g0.0=5;g1.0=5;g0.1=5;g1.1=5;d0").count(6), 0));
        CHECK.test("promise 16, turning: what contradicts apart from the driver is no jam", () -> {
            GearBench x = Benches.jammed();
            x.addPeg(50, 50);
            x.drive(3);
            CHECK.equal("count(6)", x.count(6), 0);
            speed(x, 3, 1, 1);
        });
        CHECK.test("promise 16, turning: what contradicts without a driver is no jam", () -> {
            GearBench x = Check.built("p20,20;p30,20;g0.0=5;g1.0=5;g0.1=4;g1.1=6");
            CHECK.equal("count(6)", x.count(6), 0);
        });
        CHECK.test("promise 16, turning: a jam ends when the peg between is moved away", () -> {
            GearBench x = Benches.jammed();
            x.move(2, 50, 50);
            CHECK.equal("count(6)", x.count(6), 0);
            speed(x, 1, -1, 1);
        });
    }

    // ---- Trains

    private static void trains() {
        CHECK.test("promise 18, trains: the fewest pegs go before the lowest second peg", () -> {
            GearBench x = Check.built("p10,20;p16,28;p24,28;p20,20;p60,60;p30,20",
                    "g0.1=6;g1.1=4;g2.1=4;g5.1=6;g0.0=5;g3.0=5;g5.0=5");
            CHECK.equal("another row leads by 1", x.meshes(0, 1) + x.meshes(1, 2) + x.meshes(2, 5), 6);
            CHECK.equal("pegs", x.train(0, 5, 0), 3);
            CHECK.equal("second peg", x.train(0, 5, 2), 3);
        });
        CHECK.test("promise 19, trains: where two pegs mesh on both levels, level 0 alone is taken", () -> {
            GearBench x = Check.built("p20,20;p30,20;g0.0=3;g1.0=7;g0.1=4;g1.1=6");
            CHECK.equal("numerator", x.ratio(0, 1, 0), -3);
            CHECK.equal("denominator", x.ratio(0, 1, 1), 7);
        });
        CHECK.test("promise 18, trains: level 0 alone is taken, also for the direction", () -> {
            GearBench x = Check.built("p20,20;p30,20;g0.0=5;r1.0=15;g0.1=5;g1.1=5");
            CHECK.equal("it turns with it", x.train(0, 1, 3), 0);
        });
        CHECK.test("promise 19, trains: on level 1 alone, level 1 is taken", () -> {
            GearBench x = Check.built("p20,20;p30,20;g0.0=3;g0.1=4;g1.1=6");
            CHECK.equal("numerator", x.ratio(0, 1, 0), -2);
        });
        CHECK.test("promise 18, trains: a row of all nine pegs", () -> {
            GearBench x = Benches.nine();
            for (int peg = 0; peg < 9; peg++) {
                x.putGear(peg, 0, 3);
            }
            CHECK.equal("pegs", x.train(0, 8, 0), 9);
            CHECK.equal("idlers", x.train(0, 8, 1), 7);
            CHECK.equal("second peg", x.train(8, 0, 2), 7);
            CHECK.equal("direction", x.train(8, 0, 3), 0);
        });
    }

    private static void trainsWithEqualRows() {
        CHECK.test("promise 18, trains: of several with the fewest pegs the lowest second one", () -> {
            GearBench x = Check.built("p10,20;p16,28;p16,12;p26,12;p26,28;p32,20",
                    "g0.0=5;g1.0=5;g2.0=5;g3.0=5;g4.0=5;g5.0=5");
            CHECK.equal("1 meshes with 4, 2 with 3", x.meshes(1, 4) + x.meshes(2, 3) + x.meshes(1, 3), 2);
            CHECK.equal("pegs", x.train(0, 5, 0), 4);
            CHECK.equal("second peg", x.train(0, 5, 2), 1);
            CHECK.equal("second peg of the way back", x.train(5, 0, 2), 3);
        });
        String places = "p10,20;p20,20;p60,60;";
        CHECK.test("promise 18, trains: of several with the same second peg the lowest third one", () -> {
            GearBench x = Check.built(places + "p26,28;p20,11;p32,20", "g0.1=5;g1.1=5;g3.1=5;g5.1=5",
                    "g1.0=2;g4.0=7;g5.0=8");
            CHECK.equal("both rows are there", x.meshes(1, 3) + x.meshes(3, 5) + x.meshes(1, 4) + x.meshes(4, 5), 6);
            CHECK.equal("numerator by peg 3", x.ratio(0, 5, 0), -1);
            CHECK.equal("denominator by peg 3", x.ratio(0, 5, 1), 1);
        });
        CHECK.test("promise 18, trains: the lowest third one, also if its ratio is another", () -> {
            GearBench x = Check.built(places + "p20,11;p26,28;p32,20", "g0.1=5;g1.1=5;g4.1=5;g5.1=5",
                    "g1.0=2;g3.0=7;g5.0=8");
            CHECK.equal("numerator by peg 3", x.ratio(0, 5, 0), -1);
            CHECK.equal("denominator by peg 3", x.ratio(0, 5, 1), 4);
        });
    }

    private static void idlers() {
        CHECK.answers("promise 18, trains: the first and the last peg are no idlers", 0,
                () -> Check.built("p20,20;p30,20;g0.0=5;g1.0=5").train(0, 1, 1));
        CHECK.answers("promise 18, trains: a peg that meshes with both by the same gear is an idler", 1,
                () -> Check.built("p20,20;p30,20;p40,20;g0.0=5;g1.0=5;g2.0=5").train(0, 2, 1));
        CHECK.answers("promise 18, trains: a peg that meshes with both by the same ring is an idler", 1,
                () -> Check.built("p30,30;p40,30;p20,30;r0.0=15;g1.0=5;g2.0=5").train(1, 2, 1));
        CHECK.answers("promise 18, trains: an idler on level 1", 1,
                () -> Check.built("p20,20;p30,20;p40,20;g0.1=5;g1.1=5;g2.1=5").train(0, 2, 1));
        CHECK.answers("promise 18, trains: a peg that meshes by unlike gears is no idler", 0,
                () -> Check.built("p20,20;p30,20;p40,20;g0.0=5;g1.0=5;g1.1=5;g2.1=5").train(0, 2, 1));
        CHECK.answers("promise 18, trains: level 0 alone is taken for idlers, ahead of it", 0,
                () -> Check.built("p20,20;p30,20;p40,20;g0.0=5;g1.0=5;g0.1=5;g1.1=5;g2.1=5").train(0, 2, 1));
        CHECK.answers("promise 18, trains: level 0 alone is taken for idlers, behind it", 0,
                () -> Check.built("p20,20;p30,20;p40,20;g0.1=5;g1.1=5;g1.0=5;g2.0=5;g2.1=5").train(0, 2, 1));
    }

    // ---- Marks, goal, settings

    private static void marks() {
        CHECK.answers("promise 20, marks: all speeds are whole at once", 10,
                () -> Check.built("p20,20;p30,20;g0.0=6;g1.0=4;g1.1=6;p41,20;g2.1=5;d0").marks());
        CHECK.answers("promise 20, marks: after one turn, if all speeds are whole", 1,
                () -> Check.built("p20,20;p30,20;g0.0=8;g1.0=2;d0").marks());
        CHECK.answers("promise 20, marks: the least number for two denominators", 12,
                () -> Check.built("p30,30;p37,30;p25,30;g0.0=1;g1.0=6;g2.0=4;d0").marks());
        CHECK.answers("promise 20, marks: pegs that do not turn do not count", 1,
                () -> Check.built("p20,20;p30,20;p50,50;p60,50;g0.0=5;g1.0=5;g2.0=3;g3.0=7;d0").marks());
        CHECK.answers("promise 20, marks: none in a jam", 0, () -> Benches.jammed().marks());
    }

    private static void goals() {
        CHECK.answers("promise 8, goal: of 0, by a peg that does not turn without a driver", 1,
                () -> Check.built("p20,20").goal(0, 0, 1));
        CHECK.answers("promise 8, goal: of 0, by a peg that is not joined", 1,
                () -> Check.built("p20,20;p30,20;d0").goal(1, 0, 1));
        CHECK.answers("promise 8, goal: of 0, by a peg in a jam", 1, () -> Benches.jammed().goal(0, 0, 1));
        CHECK.answers("promise 8, goal: of 0, not by a peg that turns", 0,
                () -> Check.built("p20,20;d0").goal(0, 0, 1));
        CHECK.answers("promise 8, goal: 1 by 1 is not reached in a jam", 0, () -> Benches.jammed().goal(0, 1, 1));
        CHECK.answers("promise 8, goal: the same speed in the other direction", 0,
                () -> Check.built("p20,20;p30,20;g0.0=5;g1.0=5;d0").goal(1, 1, 1));
        CHECK.answers("promise 8, goal: the same numerator by another denominator", 0,
                () -> Check.built("p20,20;p30,20;g0.0=2;g1.0=8;d0").goal(1, -1, 5));
    }

    private static void settings() {
        CHECK.answers("promise 9, settings: the play is 0 at first", 0, () -> new GearBench().set(0));
    }
}
