/** The boundary cases that promises 1 to 9 name, each in a test of its own. */
final class BenchEdgeTest {
    private static final Check CHECK = new Check("BenchEdgeTest");
    private static final int LEAST = Integer.MIN_VALUE;
    private static final int MOST = Integer.MAX_VALUE;

    public static void main(String[] args) {
        promise1();
        promise2Arguments();
        promise2Places();
        promise3Arguments();
        promise3Answers();
        promise3Overlaps();
        promise4Arguments();
        promise4Answers();
        promise5Arguments();
        promise5Places();
        promise5Answers();
        promise6();
        promise7();
        promise8Arguments();
        promise8Answers();
        promise9Arguments();
        promise9Things();
        CHECK.end();
    }

    // ---- Promise 1

    private static void promise1() {
        CHECK.answers("promise 1: no pegs", 0, () -> new GearBench().count(0));
        CHECK.answers("promise 1: no driver", -1, () -> new GearBench().count(4));
        CHECK.answers("promise 1: no goal", -1, () -> new GearBench().count(7));
        CHECK.answers("promise 1: an empty buffer", 0, () -> new GearBench().clearBuffer());
        CHECK.answers("promise 1: no saved state", 0, () -> new GearBench().count(10));
        CHECK.test("promise 1: a new object has nothing of another one", () -> {
            String before = Check.everything(new GearBench());
            Check.everything(Benches.rich());
            CHECK.same("a second new object", Check.everything(new GearBench()), before);
        });
        CHECK.answers("promise 1: NONE is -1", -1, () -> GearBench.NONE);
    }

    // ---- Promise 2

    private static void promise2Arguments() {
        int[] outside = {-1, 61, LEAST, MOST};
        for (int wrong : outside) {
            CHECK.refuses("promise 2: x is out of range: " + wrong, Check.ARGUMENT, Benches::rich,
                    x -> x.addPeg(wrong, 5));
            CHECK.refuses("promise 2: y is out of range: " + wrong, Check.ARGUMENT, Benches::rich,
                    x -> x.addPeg(5, wrong));
        }
        for (int edge = 0; edge <= 60; edge += 60) {
            int place = edge;
            CHECK.test("promise 2: x may be " + edge, () -> {
                GearBench x = Benches.rich();
                CHECK.equal("its number", x.addPeg(place, 7), 4);
                CHECK.equal("x", x.peg(4, 0), place);
            });
            CHECK.test("promise 2: y may be " + edge, () -> {
                GearBench x = Benches.rich();
                CHECK.equal("its number", x.addPeg(7, place), 4);
                CHECK.equal("y", x.peg(4, 1), place);
            });
        }
        CHECK.refuses("promise 2: out of range goes before the ninth peg", Check.ARGUMENT, Benches::nine,
                x -> x.addPeg(61, 5));
        CHECK.isUndoable("promise 2: undoable", Benches::fresh, x -> x.addPeg(5, 5));
    }

    private static void promise2Places() {
        CHECK.test("promise 2: returns its number, in the order in which they came", () -> {
            GearBench x = new GearBench();
            for (int peg = 0; peg < 9; peg++) {
                CHECK.equal("addPeg", x.addPeg(60 - peg, peg), peg);
            }
        });
        CHECK.refuses("promise 2: there are 9 pegs", Check.STATE, Benches::nine, x -> x.addPeg(60, 60));
        CHECK.refuses("promise 2: there is one at this place", Check.STATE, Benches::rich, x -> x.addPeg(10, 10));
        CHECK.refuses("promise 2: the latest one is at this place", Check.STATE, Benches::rich, x -> x.addPeg(50, 50));
        CHECK.answers("promise 2: the same x is no same place", 4, () -> Benches.rich().addPeg(10, 11));
        CHECK.answers("promise 2: the same y is no same place", 4, () -> Benches.rich().addPeg(11, 10));
        CHECK.answers("promise 2: x and y exchanged are another place", 1, () -> {
            GearBench x = new GearBench();
            x.addPeg(3, 4);
            return x.addPeg(4, 3);
        });
        CHECK.test("promise 2: without anything on it", () -> {
            GearBench x = Benches.rich();
            x.addPeg(5, 5);
            for (int what = 2; what <= 8; what++) {
                CHECK.equal("peg(4, " + what + ")", x.peg(4, what), 0);
            }
        });
        CHECK.test("promise 2: without anything on it, where a number is used again", () -> {
            GearBench x = Benches.fresh();
            x.addPeg(40, 30);
            x.putGear(4, 0, 3);
            x.putRing(4, 1, 8);
            x.undo();
            x.undo();
            x.undo();
            CHECK.equal("the number again", x.addPeg(6, 6), 4);
            for (int what = 2; what <= 8; what++) {
                CHECK.equal("peg(4, " + what + ")", x.peg(4, what), 0);
            }
        });
        CHECK.test("promise 2: a place that a peg has left is free", () -> {
            GearBench x = Benches.rich();
            x.move(3, 40, 40);
            CHECK.equal("there", x.addPeg(50, 50), 4);
        });
        CHECK.test("promise 2: a place whose peg was undone is free", () -> {
            GearBench x = Benches.rich();
            x.addPeg(5, 5);
            x.undo();
            CHECK.equal("there", x.addPeg(5, 5), 4);
        });
        CHECK.answers("promise 2: a peg may stand within a gear", 4, () -> Benches.rich().addPeg(11, 10));
    }

    // ---- Promise 3

    private static void promise3Arguments() {
        for (int wrong : new int[] {-1, 4, 8, 9, LEAST, MOST}) {
            CHECK.refuses("promise 3: there is no peg " + wrong, Check.INDEX, Benches::rich,
                    x -> x.putGear(wrong, 0, 1));
        }
        CHECK.refuses("promise 3: there is no peg at all", Check.INDEX, GearBench::new, x -> x.putGear(0, 0, 1));
        for (int wrong : new int[] {-1, 2, LEAST, MOST}) {
            CHECK.refuses("promise 3: the level is out of range: " + wrong, Check.ARGUMENT, Benches::rich,
                    x -> x.putGear(3, wrong, 1));
        }
        for (int wrong : new int[] {-1, 21, LEAST, MOST}) {
            CHECK.refuses("promise 3: the teeth are out of range: " + wrong, Check.ARGUMENT, Benches::rich,
                    x -> x.putGear(3, 0, wrong));
        }
        for (int level = 0; level < 2; level++) {
            for (int teeth : new int[] {1, 20}) {
                int there = level;
                CHECK.test("promise 3: " + teeth + " teeth may be on level " + level, () -> {
                    GearBench x = Check.built("p20,20");
                    x.putGear(0, there, teeth);
                    CHECK.equal("teeth there", x.peg(0, 2 + there), teeth);
                    CHECK.equal("a gear there", x.peg(0, 4 + there), 1);
                    CHECK.equal("nothing on the other level", x.peg(0, 5 - there), 0);
                });
            }
        }
        CHECK.refuses("promise 3: no such peg goes before the level", Check.INDEX, Benches::rich,
                x -> x.putGear(4, 2, 1));
        CHECK.refuses("promise 3: no such peg goes before the teeth", Check.INDEX, Benches::rich,
                x -> x.putGear(-1, 0, 21));
        CHECK.refuses("promise 3: teeth out of range go before an overlap", Check.ARGUMENT, Benches::rich,
                x -> x.putGear(0, 0, 21));
        CHECK.isUndoable("promise 3: undoable", Benches::fresh, x -> x.putGear(3, 1, 4));
        CHECK.isUndoable("promise 3: undoable, also taking away", Benches::fresh, x -> x.putGear(0, 0, 0));
        CHECK.isUndoable("promise 3: undoable, also the same gear again", Benches::fresh, x -> x.putGear(0, 0, 5));
        CHECK.isUndoable("promise 3: undoable, also nothing taken away", Benches::fresh, x -> x.putGear(3, 0, 0));
    }

    private static void promise3Answers() {
        CHECK.answers("promise 3: it meshes with none", 0, () -> Check.built("p20,20").putGear(0, 0, 5));
        CHECK.answers("promise 3: it meshes with two, before and behind it", 2,
                () -> Check.built("p20,20;p30,20;p40,20;g0.0=5;g2.0=5").putGear(1, 0, 5));
        CHECK.answers("promise 3: it meshes with eight", 8, () -> {
            GearBench x = Check.built("p30,30;p40,30;p20,30;p30,40;p30,20", "p36,38;p24,38;p36,22;p24,22");
            for (int peg = 1; peg < 9; peg++) {
                x.putGear(peg, 1, 1);
            }
            return x.putGear(0, 1, 9);
        });
        CHECK.answers("promise 3: what meshes on the other level does not count", 0,
                () -> Check.built("p20,20;p30,20;g0.1=5;g1.1=5").putGear(0, 0, 5));
        CHECK.answers("promise 3: 0 teeth mesh with none", 0,
                () -> Check.built("p20,20;p30,20;g0.0=5;g1.0=5").putGear(0, 0, 0));
        CHECK.test("promise 3: in place of the gear on this level", () -> {
            GearBench x = Check.built("p20,20;g0.0=5;g0.1=6");
            x.putGear(0, 0, 7);
            CHECK.equal("teeth", x.peg(0, 2), 7);
            CHECK.equal("the other level", x.peg(0, 3), 6);
            CHECK.equal("gears", x.count(1), 2);
        });
        CHECK.test("promise 3: in place of the ring on this level", () -> {
            GearBench x = Check.built("p20,20;r0.0=9");
            x.putGear(0, 0, 9);
            CHECK.equal("a gear", x.peg(0, 4), 1);
            CHECK.equal("rings", x.count(2), 0);
        });
        CHECK.test("promise 3: 0 takes a gear away, from this level alone", () -> {
            GearBench x = Check.built("p20,20;g0.0=5;g0.1=6");
            x.putGear(0, 1, 0);
            CHECK.equal("nothing there", x.peg(0, 5), 0);
            CHECK.equal("no teeth there", x.peg(0, 3), 0);
            CHECK.equal("gears", x.count(1), 1);
        });
        CHECK.test("promise 3: 0 takes a ring away", () -> {
            GearBench x = Check.built("p20,20;r0.0=9");
            x.putGear(0, 0, 0);
            CHECK.equal("nothing there", x.peg(0, 4), 0);
            CHECK.equal("rings", x.count(2), 0);
        });
        CHECK.test("promise 3: what was taken away leaves room", () -> {
            GearBench x = Check.built("p20,20;p30,20;g0.0=5;g1.0=5");
            x.putGear(0, 0, 0);
            CHECK.equal("a greater one", x.putGear(1, 0, 20), 0);
        });
    }

    private static void promise3Overlaps() {
        CHECK.refuses("promise 3: it would overlap with a gear of a lower peg", Check.STATE, Benches::rich,
                x -> x.putGear(1, 0, 7));
        CHECK.refuses("promise 3: it would overlap with a gear of a higher peg", Check.STATE, Benches::rich,
                x -> x.putGear(0, 0, 7));
        CHECK.refuses("promise 3: it would overlap on level 1", Check.STATE, Benches::rich, x -> x.putGear(1, 1, 6));
        CHECK.refuses("promise 3: it would overlap with a ring", Check.STATE,
                () -> Check.built("p20,20;p30,20;r1.0=12"), x -> x.putGear(0, 0, 5));
        CHECK.test("promise 3: what it replaces does not overlap with it", () -> {
            GearBench x = Check.built("p20,20;p30,20;g0.0=9");
            CHECK.equal("another one on the same peg", x.putGear(0, 0, 8), 0);
        });
        CHECK.test("promise 3: things of other pegs that overlap already do not hinder it", () -> {
            GearBench x = Benches.overlapping();
            CHECK.equal("overlaps", x.count(9), 1);
            CHECK.equal("on a third peg", x.putGear(2, 0, 20), 0);
        });
        CHECK.test("promise 3: an overlap on the other level of the same peg does not hinder it", () ->
                CHECK.equal("on level 1", Benches.overlapping().putGear(0, 1, 20), 0));
        CHECK.refuses("promise 3: what overlaps now cannot be put again", Check.STATE, Benches::overlapping,
                x -> x.putGear(0, 0, 7));
        CHECK.answers("promise 3: what overlaps now can be taken away", 0,
                () -> Benches.overlapping().putGear(0, 0, 0));
        CHECK.answers("promise 3: what overlaps now can be replaced by a lesser one", 1,
                () -> Benches.overlapping().putGear(0, 0, 6));
    }

    // ---- Promise 4

    private static void promise4Arguments() {
        for (int wrong : new int[] {-1, 4, 8, 9, LEAST, MOST}) {
            CHECK.refuses("promise 4: there is no peg " + wrong, Check.INDEX, Benches::rich,
                    x -> x.putRing(wrong, 0, 6));
        }
        CHECK.refuses("promise 4: there is no peg at all", Check.INDEX, GearBench::new, x -> x.putRing(0, 0, 6));
        for (int wrong : new int[] {-1, 2, LEAST, MOST}) {
            CHECK.refuses("promise 4: the level is out of range: " + wrong, Check.ARGUMENT, Benches::rich,
                    x -> x.putRing(3, wrong, 6));
        }
        for (int wrong : new int[] {0, 5, 41, -1, -6, LEAST, MOST}) {
            CHECK.refuses("promise 4: the teeth are out of range: " + wrong, Check.ARGUMENT, Benches::rich,
                    x -> x.putRing(3, 0, wrong));
        }
        for (int level = 0; level < 2; level++) {
            for (int teeth : new int[] {6, 40}) {
                int there = level;
                CHECK.test("promise 4: " + teeth + " teeth may be on level " + level, () -> {
                    GearBench x = Check.built("p20,20");
                    x.putRing(0, there, teeth);
                    CHECK.equal("teeth there", x.peg(0, 2 + there), teeth);
                    CHECK.equal("a ring there", x.peg(0, 4 + there), 2);
                    CHECK.equal("nothing on the other level", x.peg(0, 5 - there), 0);
                });
            }
        }
        CHECK.refuses("promise 4: no such peg goes before the level", Check.INDEX, Benches::rich,
                x -> x.putRing(4, 2, 6));
        CHECK.refuses("promise 4: no such peg goes before the teeth", Check.INDEX, Benches::rich,
                x -> x.putRing(-1, 0, 41));
        CHECK.refuses("promise 4: teeth out of range go before an overlap", Check.ARGUMENT,
                () -> Check.built("p20,20;p22,20;g0.0=8"), x -> x.putRing(1, 0, 5));
        CHECK.isUndoable("promise 4: undoable", Benches::fresh, x -> x.putRing(3, 1, 9));
        CHECK.isUndoable("promise 4: undoable, also the same ring again", () -> Check.built("p20,20;r0.0=9"),
                x -> x.putRing(0, 0, 9));
    }

    private static void promise4Answers() {
        CHECK.answers("promise 4: it meshes with none", 0, () -> Check.built("p20,20").putRing(0, 0, 6));
        CHECK.answers("promise 4: it meshes with two", 2,
                () -> Check.built("p20,20;p30,20;p40,20;g0.0=5;g2.0=5").putRing(1, 0, 15));
        CHECK.answers("promise 4: what meshes on the other level does not count", 0,
                () -> Check.built("p20,20;p30,20;g0.1=5;g1.1=5").putRing(0, 0, 6));
        CHECK.answers("promise 4: it meshes with no ring", 0,
                () -> Check.built("p20,20;p30,20;r1.0=16").putRing(0, 0, 6));
        CHECK.test("promise 4: in place of the gear on this level", () -> {
            GearBench x = Check.built("p20,20;g0.0=9;g0.1=6");
            x.putRing(0, 0, 9);
            CHECK.equal("a ring", x.peg(0, 4), 2);
            CHECK.equal("the other level", x.peg(0, 5), 1);
            CHECK.equal("gears", x.count(1), 1);
        });
        CHECK.test("promise 4: in place of the ring on this level", () -> {
            GearBench x = Check.built("p20,20;r0.0=9");
            x.putRing(0, 0, 10);
            CHECK.equal("teeth", x.peg(0, 2), 10);
            CHECK.equal("rings", x.count(2), 1);
        });
        CHECK.refuses("promise 4: it would overlap with a gear of a lower peg", Check.STATE, Benches::rich,
                x -> x.putRing(1, 0, 12));
        CHECK.refuses("promise 4: it would overlap with a gear of a higher peg", Check.STATE, Benches::rich,
                x -> x.putRing(0, 0, 12));
        CHECK.refuses("promise 4: it would overlap on level 1", Check.STATE, Benches::rich, x -> x.putRing(1, 1, 10));
        CHECK.answers("promise 4: things of other pegs that overlap already do not hinder it", 0,
                () -> Benches.overlapping().putRing(2, 0, 6));
        CHECK.answers("promise 4: what overlaps now can be replaced by a ring that is wide", 1,
                () -> Benches.overlapping().putRing(0, 0, 20));
    }

    // ---- Promise 5

    private static void promise5Arguments() {
        for (int wrong : new int[] {-1, 4, 8, 9, LEAST, MOST}) {
            CHECK.refuses("promise 5: there is no peg " + wrong, Check.INDEX, Benches::rich,
                    x -> x.move(wrong, 1, 1));
        }
        CHECK.refuses("promise 5: there is no peg at all", Check.INDEX, GearBench::new, x -> x.move(0, 1, 1));
        for (int wrong : new int[] {-1, 61, LEAST, MOST}) {
            CHECK.refuses("promise 5: x is out of range: " + wrong, Check.ARGUMENT, Benches::rich,
                    x -> x.move(3, wrong, 1));
            CHECK.refuses("promise 5: y is out of range: " + wrong, Check.ARGUMENT, Benches::rich,
                    x -> x.move(3, 1, wrong));
        }
        for (int edge = 0; edge <= 60; edge += 60) {
            int place = edge;
            CHECK.test("promise 5: x may be " + edge, () -> {
                GearBench x = Benches.rich();
                x.move(3, place, 59);
                CHECK.equal("x", x.peg(3, 0), place);
            });
            CHECK.test("promise 5: y may be " + edge, () -> {
                GearBench x = Benches.rich();
                x.move(3, 59, place);
                CHECK.equal("y", x.peg(3, 1), place);
            });
        }
        CHECK.refuses("promise 5: no such peg goes before x", Check.INDEX, Benches::rich, x -> x.move(4, 61, 1));
        CHECK.refuses("promise 5: no such peg goes before y", Check.INDEX, Benches::rich, x -> x.move(-1, 1, -1));
        CHECK.isUndoable("promise 5: undoable", Benches::fresh, x -> x.move(1, 40, 40));
        CHECK.isUndoable("promise 5: undoable, also to its own place", Benches::fresh, x -> x.move(1, 20, 10));
    }

    private static void promise5Places() {
        CHECK.refuses("promise 5: another peg is at this place", Check.STATE, Benches::nine, x -> x.move(0, 48, 0));
        CHECK.refuses("promise 5: a lower peg is at this place", Check.STATE, Benches::nine, x -> x.move(8, 0, 0));
        CHECK.answers("promise 5: it may stay at its own place", 1, () -> Benches.rich().move(0, 10, 10));
        CHECK.refuses("promise 5: its gear would overlap on level 0", Check.STATE, Benches::rich,
                x -> x.move(0, 12, 10));
        CHECK.refuses("promise 5: its gear would overlap on level 1", Check.STATE, Benches::rich,
                x -> x.move(2, 20, 2));
        CHECK.refuses("promise 5: its ring would overlap", Check.STATE, Benches::rich, x -> x.move(3, 16, 10));
        CHECK.refuses("promise 5: it overlaps already, so it cannot stay", Check.STATE, Benches::overlapping,
                x -> x.move(0, 20, 20));
        CHECK.answers("promise 5: it overlaps already, but may leave", 1, () -> Benches.overlapping().move(0, 19, 20));
        CHECK.answers("promise 5: things of other pegs that overlap already do not hinder it", 0,
                () -> Benches.overlapping().move(2, 21, 20));
        CHECK.answers("promise 5: an empty peg may stand within a gear", 0,
                () -> Check.built("p20,20;p30,20;g0.0=9").move(1, 21, 20));
        CHECK.test("promise 5: the place that it has left is free", () -> {
            GearBench x = Benches.nine();
            x.move(0, 1, 1);
            CHECK.equal("another one there", x.move(8, 0, 0), 0);
        });
    }

    private static void promise5Answers() {
        CHECK.answers("promise 5: it meshes with none", 0, () -> Benches.rich().move(1, 40, 40));
        CHECK.answers("promise 5: it meshes on level 0 with one, on level 1 with another one", 2,
                () -> Benches.rich().move(1, 20, 10));
        CHECK.answers("promise 5: one peg on both levels counts once", 1,
                () -> Check.built("p20,20;p40,40;g0.0=5;g0.1=4;g1.0=5;g1.1=6").move(1, 26, 28));
        CHECK.test("promise 5: with all that is on it", () -> {
            GearBench x = Check.built("p20,20;g0.0=5;r0.1=9;p30,30");
            x.drive(0);
            x.goal(0, 1, 1);
            x.move(0, 40, 41);
            CHECK.equal("x and y", x.peg(0, 0) * 100 + x.peg(0, 1), 4041);
            CHECK.equal("gear", x.peg(0, 4) * 100 + x.peg(0, 2), 105);
            CHECK.equal("ring", x.peg(0, 5) * 100 + x.peg(0, 3), 209);
            CHECK.equal("still the driver", x.count(4), 0);
            CHECK.equal("still the goal", x.count(8), 1);
        });
    }

    // ---- Promise 6

    private static void promise6() {
        for (int wrong : new int[] {-1, 4, 8, 9, LEAST, MOST}) {
            CHECK.refuses("promise 6: there is no peg " + wrong, Check.INDEX, Benches::rich, x -> x.flip(wrong));
        }
        CHECK.refuses("promise 6: there is no peg at all", Check.INDEX, GearBench::new, x -> x.flip(0));
        CHECK.refuses("promise 6: what comes to level 0 would overlap", Check.STATE,
                () -> Check.built("p20,20;p30,20;g0.0=5;g1.1=6"), x -> x.flip(1));
        CHECK.refuses("promise 6: what comes to level 1 would overlap", Check.STATE,
                () -> Check.built("p20,20;p30,20;g0.1=5;r1.0=14"), x -> x.flip(1));
        CHECK.refuses("promise 6: both would overlap", Check.STATE,
                () -> Check.built("p20,20;p30,20;g0.0=5;g0.1=3;g1.0=5;g1.1=7"), x -> x.flip(1));
        CHECK.answers("promise 6: it overlaps already, but not when it is flipped", 0,
                () -> Benches.overlapping().flip(0));
        CHECK.answers("promise 6: things of other pegs that overlap already do not hinder it", 0,
                () -> Benches.overlapping().flip(2));
        CHECK.answers("promise 6: a peg with nothing on it", 0, () -> Check.built("p20,20").flip(0));
        CHECK.test("promise 6: a gear and nothing", () -> {
            GearBench x = Check.built("p20,20;g0.0=5");
            x.flip(0);
            CHECK.equal("nothing on level 0", x.peg(0, 4) * 100 + x.peg(0, 2), 0);
            CHECK.equal("the gear on level 1", x.peg(0, 5) * 100 + x.peg(0, 3), 105);
        });
        CHECK.test("promise 6: a gear and a ring", () -> {
            GearBench x = Check.built("p20,20;g0.0=5;r0.1=9");
            x.flip(0);
            CHECK.equal("the ring on level 0", x.peg(0, 4) * 100 + x.peg(0, 2), 209);
            CHECK.equal("the gear on level 1", x.peg(0, 5) * 100 + x.peg(0, 3), 105);
        });
        CHECK.answers("promise 6: it meshes on level 0 with one, on level 1 with another one", 2,
                () -> Check.built("p20,20;p30,20;p40,20;g0.0=5;g2.1=5;g1.0=5;g1.1=5").flip(1));
        CHECK.answers("promise 6: one peg on both levels counts once", 1,
                () -> Check.built("p20,20;p30,20;g0.0=5;g0.1=5;g1.0=5;g1.1=5").flip(1));
        CHECK.isUndoable("promise 6: undoable, also with nothing on the peg", Benches::fresh, x -> x.flip(3));
        CHECK.isUndoable("promise 6: undoable, with things on it", () -> Check.built("p20,20;g0.0=5;r0.1=9"),
                x -> x.flip(0));
    }

    // ---- Promise 7

    private static void promise7() {
        for (int wrong : new int[] {-1, 4, 8, 9, LEAST, MOST}) {
            CHECK.refuses("promise 7: there is no peg " + wrong, Check.INDEX, Benches::rich, x -> x.drive(wrong));
        }
        CHECK.refuses("promise 7: there is no peg at all", Check.INDEX, GearBench::new, x -> x.drive(0));
        CHECK.answers("promise 7: NONE if there was none", -1, () -> Check.built("p20,20").drive(0));
        CHECK.answers("promise 7: the previous one", 0, () -> Benches.rich().drive(3));
        CHECK.answers("promise 7: the previous one is the same", 0, () -> Benches.rich().drive(0));
        CHECK.test("promise 7: the last peg can drive", () -> {
            GearBench x = Benches.nine();
            x.drive(8);
            CHECK.equal("the driver", x.count(4), 8);
        });
        CHECK.test("promise 7: the previous one is the driver no more", () -> {
            GearBench x = Benches.rich();
            x.drive(3);
            CHECK.equal("its speed", x.speed(0, 0), 0);
            CHECK.equal("speed of the new one", x.speed(3, 0), 1);
        });
        CHECK.isUndoable("promise 7: undoable", Benches::fresh, x -> x.drive(3));
        CHECK.isUndoable("promise 7: undoable, also the same driver again", Benches::fresh, x -> x.drive(0));
        CHECK.isUndoable("promise 7: undoable to no driver", () -> Check.built("p20,20"), x -> x.drive(0));
    }

    // ---- Promise 8

    private static void promise8Arguments() {
        for (int wrong : new int[] {-1, 4, 8, 9, LEAST, MOST}) {
            CHECK.refuses("promise 8: there is no peg " + wrong, Check.INDEX, Benches::rich,
                    x -> x.goal(wrong, 1, 1));
        }
        CHECK.refuses("promise 8: there is no peg at all", Check.INDEX, GearBench::new, x -> x.goal(0, 1, 1));
        for (int wrong : new int[] {-100, 100, LEAST, MOST}) {
            CHECK.refuses("promise 8: the numerator is out of range: " + wrong, Check.ARGUMENT, Benches::rich,
                    x -> x.goal(0, wrong, 1));
        }
        for (int wrong : new int[] {0, 100, -1, LEAST, MOST}) {
            CHECK.refuses("promise 8: the denominator is out of range: " + wrong, Check.ARGUMENT, Benches::rich,
                    x -> x.goal(0, 1, wrong));
        }
        CHECK.answers("promise 8: the numerator may be -99", 0, () -> Benches.rich().goal(0, -99, 1));
        CHECK.answers("promise 8: the numerator may be 99", 0, () -> Benches.rich().goal(0, 99, 1));
        CHECK.answers("promise 8: the denominator may be 1", 1, () -> Benches.rich().goal(0, 1, 1));
        CHECK.answers("promise 8: the denominator may be 99", 0, () -> Benches.rich().goal(0, 1, 99));
        CHECK.refuses("promise 8: no such peg goes before the numerator", Check.INDEX, Benches::rich,
                x -> x.goal(4, 100, 1));
        CHECK.refuses("promise 8: no such peg goes before the denominator", Check.INDEX, Benches::rich,
                x -> x.goal(-1, 1, 0));
        CHECK.isUndoable("promise 8: undoable to no goal", Benches::fresh, x -> x.goal(1, -1, 1));
        CHECK.isUndoable("promise 8: undoable, also the same goal again", () -> withGoal(), x -> x.goal(1, -1, 1));
        CHECK.isUndoable("promise 8: undoable to another goal", () -> withGoal(), x -> x.goal(0, 1, 2));
    }

    private static GearBench withGoal() {
        GearBench x = Benches.fresh();
        x.goal(1, -1, 1);
        return x;
    }

    private static void promise8Answers() {
        CHECK.answers("promise 8: it is reached", 1, () -> Benches.fresh().goal(1, -1, 1));
        CHECK.answers("promise 8: it is not reached", 0, () -> Benches.fresh().goal(1, 1, 1));
        CHECK.answers("promise 8: the fraction need not be shortened", 1, () -> Benches.fresh().goal(1, -99, 99));
        CHECK.answers("promise 8: the fraction can be shortened by 2", 1, () -> Benches.fresh().goal(1, -2, 2));
        CHECK.answers("promise 8: a fraction of more digits than the speed", 1, () -> Benches.rich().goal(2, 66, 99));
        CHECK.answers("promise 8: 0 by 99 is 0", 1, () -> Benches.fresh().goal(3, 0, 99));
        CHECK.answers("promise 8: the driver reaches 1 by 1", 1, () -> Benches.fresh().goal(0, 1, 1));
        CHECK.answers("promise 8: nothing is reached without a driver", 0, () -> Check.built("p20,20").goal(0, 1, 1));
        CHECK.test("promise 8: a goal takes the place of the one before", () -> {
            GearBench x = withGoal();
            x.goal(3, 0, 1);
            CHECK.equal("its peg", x.count(7), 3);
            CHECK.equal("reached", x.count(8), 1);
            x.goal(3, 1, 1);
            CHECK.equal("not reached", x.count(8), 0);
        });
    }

    // ---- Promise 9

    private static void promise9Arguments() {
        for (int wrong : new int[] {-1, 4, LEAST, MOST}) {
            CHECK.refuses("promise 9: the play is out of range: " + wrong, Check.ARGUMENT, Benches::rich,
                    x -> x.set(wrong));
        }
        CHECK.test("promise 9: the play may be 0 to 3, and the previous one is returned", () -> {
            GearBench x = new GearBench();
            CHECK.equal("0 before", x.set(3), 0);
            CHECK.equal("3 before", x.set(0), 3);
            CHECK.equal("0 again", x.set(1), 0);
            CHECK.equal("1 before", x.set(2), 1);
            CHECK.equal("2 before", x.set(2), 2);
        });
        CHECK.isUndoable("promise 9: undoable", Benches::fresh, x -> x.set(3));
        CHECK.isUndoable("promise 9: undoable, also the same play again", Benches::fresh, x -> x.set(0));
        CHECK.isUndoable("promise 9: undoable, also without pegs", GearBench::new, x -> x.set(3));
    }

    private static void promise9Things() {
        CHECK.test("promise 9: things that overlap then stay, and do not mesh", () -> {
            GearBench x = Benches.overlapping();
            CHECK.equal("overlaps", x.count(9), 1);
            CHECK.equal("meshes", x.meshes(0, 1), 0);
            CHECK.equal("teeth of both", x.peg(0, 2) + x.peg(1, 2), 14);
        });
        CHECK.test("promise 9: a gear and a ring that overlap then do not mesh", () -> {
            GearBench x = Check.built("p20,20;p30,20;g0.0=5");
            x.set(2);
            CHECK.equal("they mesh", x.putRing(1, 0, 13), 1);
            x.set(1);
            CHECK.equal("overlaps", x.count(9), 1);
            CHECK.equal("meshes", x.meshes(0, 1), 0);
        });
        CHECK.test("promise 9: what no longer meshes turns no more", () -> {
            GearBench x = Benches.overlapping();
            x.set(1);
            x.drive(0);
            CHECK.equal("with play", x.speed(1, 0), -1);
            x.set(0);
            CHECK.equal("without play", x.speed(1, 0), 0);
        });
        CHECK.test("promise 9: things mesh that did not before", () -> {
            GearBench x = Check.built("p20,20;p30,20;g0.0=5;g1.0=2;d0");
            x.set(2);
            CHECK.equal("a play of 2", x.meshes(0, 1), 0);
            x.set(3);
            CHECK.equal("a play of 3", x.meshes(0, 1), 1);
            CHECK.equal("it turns", x.speed(1, 0) * 10 + x.speed(1, 1), -48);
        });
    }
}
