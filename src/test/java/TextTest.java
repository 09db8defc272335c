/** Promises 10 to 14: texts and undo. */
final class TextTest {
    private static final Check CHECK = new Check("TextTest");
    private static final Class<IllegalArgumentException> ARGUMENT = Check.ARGUMENT;
    private static final Class<IllegalStateException> STATE = Check.STATE;

    public static void main(String[] args) {
        CHECK.test("promise 10: append", TextTest::promise10Append);
        CHECK.test("promise 11: clear buffer", TextTest::promise11ClearBuffer);
        CHECK.test("promise 12: first error", TextTest::promise12FirstError);
        CHECK.test("promise 13: build", TextTest::promise13Build);
        CHECK.test("promise 13: refused", TextTest::promise13Refused);
        CHECK.test("promise 14: undo", TextTest::promise14Undo);
        CHECK.end();
    }

    private static void promise10Append() {
        GearBench x = new GearBench();
        CHECK.refused("10 code 32", x, ARGUMENT, () -> x.append(32));
        CHECK.refused("10 code 127", x, ARGUMENT, () -> x.append(127));
        CHECK.refused("10 code -1", x, ARGUMENT, () -> x.append(-1));
        CHECK.equal("10 code 33", x.append(33), 1);
        CHECK.equal("10 code 126", x.append(126), 2);
        for (int length = 3; length <= 60; length++) {
            CHECK.equal("10 length", x.append('d'), length);
        }
        CHECK.refused("10 full", x, STATE, () -> x.append('d'));
        CHECK.refused("10 full and out of range", x, ARGUMENT, () -> x.append(32));
        CHECK.equal("10 saves nothing", x.count(10), 0);
    }

    private static void promise11ClearBuffer() {
        GearBench x = new GearBench();
        Check.type(x, "p1,1");
        CHECK.equal("11 its length", x.clearBuffer(), 4);
        CHECK.equal("11 empty", x.clearBuffer(), 0);
        CHECK.equal("11 appends from the start", x.append('p'), 1);
        CHECK.equal("11 saves nothing", x.count(10), 0);
    }

    private static void promise12FirstError() {
        errorAt("", 0);
        errorAt("x", 0);
        errorAt(";", 0);
        errorAt("0", 0);
        errorAt("P", 0);
        errorAt("p", 1);
        errorAt("p,", 1);
        errorAt("p-1", 1);
        errorAt("p00", 2);
        errorAt("p01", 2);
        errorAt("p0,", 3);
        errorAt("p7", 2);
        errorAt("p70", 2);
        errorAt("p60", 3);
        errorAt("p61", 2);
        errorAt("p59,59", 6);
        errorAt("p600", 3);
        errorAt("p0.0", 2);
        errorAt("p0,60", 5);
        errorAt("p0,61", 4);
        errorAt("p0,0,", 4);
        errorAt("p0,0;", 5);
        errorAt("p0,0;;", 5);
        errorAt("p0,0;d", 6);
        errorAt("p0,0d", 4);
        errorAt("d8", 2);
        errorAt("d9", 1);
        errorAt("d1", 2);
        errorAt("d10", 2);
        errorAt("d0;d1;d2", 8);
        errorAt("g8", 2);
        errorAt("g9", 1);
        errorAt("g00", 2);
        errorAt("g0,", 2);
        errorAt("g0.1", 4);
        errorAt("g0.2", 3);
        errorAt("g0.11", 4);
        errorAt("g0.0.", 4);
        errorAt("g0.0=", 5);
        errorAt("g0.0=0", 6);
        errorAt("g0.0=00", 6);
        errorAt("g0.0=05", 6);
        errorAt("g0.0=19", 7);
        errorAt("g0.0=20", 7);
        errorAt("g0.0=21", 6);
        errorAt("g0.0=3", 6);
        errorAt("g0.0=30", 6);
        errorAt("g0.0=199", 7);
        errorAt("r0.0=0", 5);
        errorAt("r0.0=5", 5);
        errorAt("r0.0=6", 6);
        errorAt("r0.0=9", 6);
        errorAt("r0.0=60", 6);
        errorAt("r0.0=1", 6);
        errorAt("r0.0=1;", 6);
        errorAt("r0.0=10", 7);
        errorAt("r0.0=39", 7);
        errorAt("r0.0=3;", 6);
        errorAt("r0.0=4", 6);
        errorAt("r0.0=4;", 6);
        errorAt("r0.0=40", 7);
        errorAt("r0.0=41", 6);
        errorAt("r0.0=400", 7);
        errorAt("r9", 1);
        errorAt("r0.0=6;x;y", 7);
        String longest = "d0;d1;d2;d3;d4;d5;d6;d7;d8;d0;d1;d2;d3;d4;d5;d6;d7;d8;d0;d1";
        errorAt(longest, 59);
        errorAt(longest + ";", 60);
        errorAt(longest + "0", 59);
    }

    private static void errorAt(String text, int due) {
        GearBench x = new GearBench();
        Check.type(x, text);
        long before = x.digest();
        CHECK.equal("12 firstError() of " + text, x.firstError(), due);
        CHECK.equal("12 the buffer stays", x.digest(), before);
        CHECK.equal("12 asked again", x.firstError(), due);
    }

    private static void promise13Build() {
        GearBench x = new GearBench();
        Check.type(x, "p10,10;p20,10;g0.0=5;g1.0=5;r1.1=16;d0;g0.1=20");
        CHECK.equal("13 up to the one that would overlap", x.build(), 6);
        CHECK.equal("13 the buffer is clear", x.clearBuffer(), 0);
        CHECK.equal("13 saved once", x.count(10), 1);
        CHECK.equal("13 pegs", x.count(0), 2);
        CHECK.equal("13 rings", x.peg(1, 5) * 100 + x.peg(1, 3), 216);
        CHECK.equal("13 the driver", x.count(4), 0);
        CHECK.equal("13 speed", x.speed(1, 0), -1);
        CHECK.equal("13 the last one not done", x.peg(0, 5), 0);
        builds(x, "g1.0=0;d1;d2;d0", 2);
        CHECK.equal("13 taken away", x.peg(1, 4), 0);
        CHECK.equal("13 the driver by the second", x.count(4), 1);
        builds(x, "g2.0=5", 0);
        CHECK.equal("13 saved, though none was done", x.count(10), 3);
        builds(x, "p10,10;p1,1", 0);
        builds(x, "r2.0=6", 0);
        builds(x, "r0.0=6;r1.1=40;d0", 3);
        CHECK.equal("13 undone as one", x.undo() * 100 + x.peg(0, 5) * 10 + x.count(4), 501);
        GearBench full = new GearBench();
        builds(full, "p0,0;p1,0;p2,0;p3,0;p4,0;p5,0;p6,0;p7,0;p8,0;p9,0", 9);
        CHECK.equal("13 as one undone", full.undo() * 10 + full.count(0), 0);
        GearBench drives = Check.built("p0,0");
        builds(drives, "d0;d0;d0;d0;d0;d0;d0;d0;d0;d0;d0;d0;d0;d0;d0;d0;d0;d0;d0;d0", 20);
    }

    private static void builds(GearBench x, String text, int due) {
        Check.type(x, text);
        CHECK.equal("13 build() of " + text, x.build(), due);
        CHECK.equal("13 the buffer is clear", x.clearBuffer(), 0);
    }

    private static void promise13Refused() {
        String[] texts = {"", "p", "p1", "p1,", "p1,1;", "g0.0=", "r0.0=1", "r0.0=4", "d", "x", "d0;d0;", "d0;;d0", "d00"};
        for (String text : texts) {
            GearBench x = Check.built("p10,10");
            Check.type(x, text);
            CHECK.refused("13 build() of " + text, x, ARGUMENT, () -> x.build());
            CHECK.equal("13 the buffer stays", x.clearBuffer(), text.length());
        }
    }

    private static void promise14Undo() {
        GearBench x = new GearBench();
        CHECK.refused("14 none", x, STATE, () -> x.undo());
        for (int i = 0; i < 9; i++) {
            x.addPeg(i, i);
        }
        x.append('p');
        for (int left = 5; left >= 0; left--) {
            CHECK.equal("14 left", x.undo(), left);
            CHECK.equal("14 pegs", x.count(0), left + 3);
        }
        CHECK.refused("14 no more", x, STATE, () -> x.undo());
        CHECK.equal("14 the buffer is not undone", x.clearBuffer(), 1);
        everythingComesBack();
        refusedCallsSaveNothing();
    }

    private static void everythingComesBack() {
        GearBench x = Check.built("p10,10;p20,10;g0.0=5;g1.0=5;d0");
        x.goal(1, -1, 1);
        long before = x.digest();
        x.set(2);
        x.undo();
        CHECK.equal("14 after set", x.digest(), before);
        x.goal(0, 7, 2);
        x.undo();
        CHECK.equal("14 after goal", x.digest(), before);
        x.drive(1);
        x.undo();
        CHECK.equal("14 after drive", x.digest(), before);
        x.move(1, 60, 60);
        x.undo();
        CHECK.equal("14 after move", x.digest(), before);
        x.flip(1);
        x.undo();
        CHECK.equal("14 after flip", x.digest(), before);
        x.putRing(1, 1, 6);
        x.undo();
        CHECK.equal("14 after putRing", x.digest(), before);
        x.putGear(1, 0, 0);
        x.undo();
        CHECK.equal("14 after putGear", x.digest(), before);
    }

    private static void refusedCallsSaveNothing() {
        GearBench x = Check.built("p10,10");
        try {
            x.addPeg(10, 10);
        } catch (IllegalStateException expected) {
            CHECK.equal("14 a refused call saves nothing", x.count(10), 1);
        }
        x.peg(0, 0);
        x.firstError();
        x.ifPut(0, 0, 5, 0);
        x.solution(0);
        CHECK.equal("14 a look saves nothing", x.count(10), 1);
    }
}
