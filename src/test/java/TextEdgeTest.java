import java.util.function.Consumer;

/** The boundary cases that promises 10 to 14, and the terms of input text and undo, name, each in a test of its own. */
final class TextEdgeTest {
    private static final Check CHECK = new Check("TextEdgeTest");
    private static final String LONGEST = "d0;d1;d2;d3;d4;d5;d6;d7;d8;d0;d1;d2;d3;d4;d5;d6;d7;d8;d0;d1";

    public static void main(String[] args) {
        promise10();
        promise11();
        promise12Pegs();
        promise12Gears();
        promise12Rings();
        promise12DriversAndOrders();
        promise12Ends();
        promise13Refused();
        promise13Stops();
        promise13Saves();
        promise14();
        promise14Slots();
        undoBringsBack();
        whatSavesNothing();
        CHECK.end();
    }

    private static GearBench typed(String text) {
        GearBench x = Check.built("p20,20;p30,20;g0.0=5");
        Check.type(x, text);
        return x;
    }

    /** A buffer of 60 characters that is a bench as a text, but for the last one. */
    private static GearBench full() {
        return typed(LONGEST + ";");
    }

    // ---- Promise 10

    private static void promise10() {
        for (int wrong : new int[] {32, 127, 0, -1, 31, 128, 256 + 48, Integer.MIN_VALUE, Integer.MAX_VALUE}) {
            CHECK.refuses("promise 10: the code is not 33 to 126: " + wrong, Check.ARGUMENT, Benches::rich,
                    x -> x.append(wrong));
        }
        for (int edge = 33; edge <= 126; edge += 93) {
            int code = edge;
            CHECK.test("promise 10: the code may be " + edge, () -> {
                GearBench x = new GearBench();
                CHECK.equal("the new length", x.append(code), 1);
                long empty = hashOfNew() * 31 + 1;
                CHECK.equal("the code in the digest", x.digest(), empty * 31 + code);
            });
        }
        CHECK.answers("promise 10: the buffer may have 60 characters", 60, () -> {
            GearBench x = typed(LONGEST);
            return x.append(';');
        });
        CHECK.refuses("promise 10: the buffer has 60 characters", Check.STATE, TextEdgeTest::full, x -> x.append('d'));
        CHECK.refuses("promise 10: the code goes before the full buffer", Check.ARGUMENT, TextEdgeTest::full,
                x -> x.append(32));
        CHECK.answers("promise 10: a full buffer is used again when it has been cleared", 1, () -> {
            GearBench x = full();
            x.clearBuffer();
            return x.append('p');
        });
        CHECK.answers("promise 10: a full buffer is used again when it has been built", 1, () -> {
            GearBench x = typed("d0;d1;d0;d1;d0;d1;d0;d1;d0;d1;d0;d1;d0;d1;d0;d1;d0;d1;g0.0=5");
            CHECK.equal("built", x.build(), 19);
            return x.append('p');
        });
    }

    /** The digest of a new bench, but for its buffer. */
    private static long hashOfNew() {
        long hash = 2753;
        int[] values = {0, 0, 0, 0, -1, 0, 0, -1, 0, 0, 0, 0, 0, -1, -1, -1, -1, 0};
        for (int value : values) {
            hash = 31 * hash + value;
        }
        return hash;
    }

    // ---- Promise 11

    private static void promise11() {
        CHECK.answers("promise 11: an empty buffer had 0", 0, () -> new GearBench().clearBuffer());
        CHECK.answers("promise 11: a full buffer had 60", 60, () -> full().clearBuffer());
        CHECK.answers("promise 11: a cleared buffer is empty", 0, () -> {
            GearBench x = typed("p1,1");
            x.clearBuffer();
            return x.clearBuffer();
        });
        CHECK.test("promise 11: nothing of the cleared text is read again", () -> {
            GearBench x = typed("p1,1;p2,2");
            x.clearBuffer();
            Check.type(x, "d0");
            CHECK.equal("orders", x.build(), 1);
            CHECK.equal("pegs", x.count(0), 2);
        });
        CHECK.test("promise 11: nothing but the buffer is changed", () -> {
            GearBench x = Benches.rich();
            x.clearBuffer();
            Check.type(x, "p1,~");
            CHECK.same("typed again", Check.everything(x), Check.everything(Benches.rich()));
        });
    }

    // ---- Promise 12

    private static void error(String rule, String text, int due) {
        CHECK.answers("promise 12: " + rule + ": " + text, due, () -> typed(text).firstError());
    }

    private static void promise12Pegs() {
        error("an order may begin by p", "p", 1);
        error("a number must come behind p", "p,", 1);
        error("no sign goes before a number", "p-1", 1);
        error("no plus goes before a number", "p+1", 1);
        error("x may be 0", "p0,", 3);
        error("x may be 60", "p60,", 4);
        error("x may not be 61", "p61", 2);
        error("x may not be 70", "p70", 2);
        error("x may be 7, with nothing behind it", "p7,", 3);
        error("x may not have three digits", "p100", 3);
        error("x may not have three digits after 60", "p600", 3);
        error("x has no leading zero", "p05", 2);
        error("x is not 00", "p00", 2);
        error("a comma must come between x and y", "p1.1", 2);
        error("a semicolon does not come between x and y", "p1;1", 2);
        error("a number must come behind the comma", "p1,;", 3);
        error("y may be 0", "p1,0;", 5);
        error("y may be 60", "p1,60;", 6);
        error("y may not be 61", "p1,61", 4);
        error("y may not be 70", "p1,70", 4);
        error("y has no leading zero", "p1,05", 4);
        error("y may not have three digits", "p1,100", 5);
        error("a peg has two numbers only", "p1,1,", 4);
    }

    private static void promise12Gears() {
        error("an order may begin by g", "g", 1);
        error("the peg of a gear may be 0", "g0", 2);
        error("the peg of a gear may be 8", "g8", 2);
        error("the peg of a gear may not be 9", "g9", 1);
        error("the peg of a gear has one digit", "g10", 2);
        error("the peg of a gear has no leading zero", "g01", 2);
        error("a point must come behind the peg of a gear", "g0,", 2);
        error("the level of a gear may be 0", "g0.0", 4);
        error("the level of a gear may be 1", "g0.1", 4);
        error("the level of a gear may not be 2", "g0.2", 3);
        error("the level of a gear has one digit", "g0.10", 4);
        error("the level of a gear has no leading zero", "g0.01", 4);
        error("an equals sign must come behind the level", "g0.0.", 4);
        error("teeth must come behind the equals sign", "g0.0=;", 5);
        error("the teeth of a gear may be 0", "g0.0=0;", 7);
        error("the teeth of a gear may be 9", "g0.0=9;", 7);
        error("the teeth of a gear may be 20", "g0.0=20;", 8);
        error("the teeth of a gear may not be 21", "g0.0=21", 6);
        error("the teeth of a gear may not be 30", "g0.0=30", 6);
        error("the teeth of a gear have no leading zero", "g0.0=05", 6);
        error("the teeth of a gear are not 00", "g0.0=00", 6);
        error("the teeth of a gear may not have three digits", "g0.0=190", 7);
    }

    private static void promise12Rings() {
        error("an order may begin by r", "r", 1);
        error("the peg of a ring may be 8", "r8.", 3);
        error("the peg of a ring may not be 9", "r9", 1);
        error("the peg of a ring has one digit", "r11", 2);
        error("a point must come behind the peg of a ring", "r0=", 2);
        error("the level of a ring may be 1", "r0.1=", 5);
        error("the level of a ring may not be 2", "r0.2", 3);
        error("an equals sign must come behind the level of a ring", "r0.0;", 4);
        error("the teeth of a ring may not be 0", "r0.0=0", 5);
        error("the teeth of a ring may not be 5", "r0.0=5", 5);
        error("the teeth of a ring may be 6", "r0.0=6;", 7);
        error("the teeth of a ring may be 9", "r0.0=9;", 7);
        error("the teeth of a ring may not be 60", "r0.0=60", 6);
        error("the teeth of a ring may begin by 1", "r0.0=1", 6);
        error("the teeth of a ring may not be 1", "r0.0=1;", 6);
        error("the teeth of a ring may be 10", "r0.0=10;", 8);
        error("the teeth of a ring may not be 3", "r0.0=3;", 6);
        error("the teeth of a ring may be 39", "r0.0=39;", 8);
        error("the teeth of a ring may begin by 4", "r0.0=4", 6);
        error("the teeth of a ring may not be 4", "r0.0=4;", 6);
        error("the teeth of a ring may be 40", "r0.0=40;", 8);
        error("the teeth of a ring may not be 41", "r0.0=41", 6);
        error("the teeth of a ring may not be 50", "r0.0=50", 5);
        error("the teeth of a ring have no leading zero", "r0.0=06", 5);
        error("the teeth of a ring may not have three digits", "r0.0=100", 7);
    }

    private static void promise12DriversAndOrders() {
        error("an order may begin by d", "d", 1);
        error("a peg must come behind d", "d;", 1);
        error("the driver may be 0", "d0;", 3);
        error("the driver may be 8", "d8;", 3);
        error("the driver may not be 9", "d9", 1);
        error("the driver has one digit", "d10", 2);
        error("the driver has no leading zero", "d00", 2);
        error("no order begins by another letter", "x", 0);
        error("no order begins by a great letter", "P1,1", 0);
        error("no order begins by a digit", "1", 0);
        error("a text does not begin by a semicolon", ";d0", 0);
        error("an order must come behind a semicolon", "d0;;", 3);
        error("a second order is read as the first one", "d0;p61,1", 5);
        error("orders are not joined by a comma", "d0,d1", 2);
        error("orders are not joined by nothing", "d0d1", 2);
        error("the last order of many", LONGEST.substring(0, 57) + "d9", 58);
        error("the first one of two errors", "p61,61;x", 2);
        error("the last sign that can be typed", "~", 0);
        error("the first sign that can be typed", "!", 0);
        error("the sign below the digits is none", "p/", 1);
        error("the sign above the digits is none", "p:", 1);
        error("the sign below the digits is none, behind a digit", "p1/", 2);
        error("the sign above the digits is none, behind a digit", "p1:", 2);
    }

    private static void promise12Ends() {
        error("an empty buffer has none", "", 0);
        error("the length if there is none", "p1,1;d0", 7);
        error("a text that is not complete has none", "p1,1;d", 6);
        error("a semicolon at the end is none", "p1,1;", 5);
        error("a full buffer, complete", LONGEST, 59);
        error("a full buffer, that a longer text could go on", LONGEST + ";", 60);
        error("a full buffer, in the middle of an order", LONGEST.substring(0, 57) + "p6,", 60);
        error("a full buffer, with an error at its end", LONGEST + "x", 59);
        CHECK.changesNothing("promise 12: the buffer and all else stay", Benches::rich, x -> x.firstError());
        CHECK.test("promise 12: asked again it answers again", () -> {
            GearBench x = typed("p1,x");
            CHECK.equal("first", x.firstError(), 3);
            CHECK.equal("again", x.firstError(), 3);
        });
        CHECK.test("promise 12: one more character is read with those before", () -> {
            GearBench x = typed("r0.0=4");
            CHECK.equal("4 may go on", x.firstError(), 6);
            x.append('0');
            CHECK.equal("40", x.firstError(), 7);
            x.append('0');
            CHECK.equal("400", x.firstError(), 7);
        });
        CHECK.test("promise 12: a peg that is not there is no syntax error", () -> {
            GearBench x = new GearBench();
            Check.type(x, "g8.0=5;d7");
            CHECK.equal("the length", x.firstError(), 9);
        });
    }

    // ---- Promise 13

    private static void refuses(String rule, String text) {
        CHECK.refuses("promise 13: not a complete bench as a text: " + rule, Check.ARGUMENT, () -> typed(text),
                x -> x.build());
    }

    private static void promise13Refused() {
        refuses("an empty buffer", "");
        refuses("a letter alone", "d");
        refuses("a peg without y", "p1,");
        refuses("a peg without a comma", "p11");
        refuses("a gear without teeth", "g0.0=");
        refuses("a ring of 1 tooth", "r0.0=1");
        refuses("a ring of 4 teeth", "r0.0=4");
        refuses("a semicolon at the end", "d0;");
        refuses("a syntax error at the end, behind whole orders", "d0;d1;x");
        refuses("a syntax error behind a whole order", "d0d");
        refuses("a full buffer that ends by a semicolon", LONGEST + ";");
        CHECK.test("promise 13: refused, the buffer stays and can be ended", () -> {
            GearBench x = typed("d");
            CHECK.throwsJust(Check.ARGUMENT, () -> x.build());
            x.append('1');
            CHECK.equal("built", x.build(), 1);
        });
        CHECK.answers("promise 13: an order alone is complete", 1, () -> typed("d0").build());
        CHECK.answers("promise 13: a ring of 6 teeth is complete", 1, () -> typed("r1.1=6").build());
    }

    /** After the text the bench is as after this one call, saved states and all. */
    private static void does(String rule, String text, int due, Consumer<GearBench> call) {
        CHECK.test("promise 13: " + rule, () -> {
            GearBench x = typed(text);
            CHECK.equal("done", x.build(), due);
            GearBench y = typed("");
            call.accept(y);
            CHECK.same("the bench", Check.everything(x), Check.everything(y));
        });
    }

    private static void promise13Stops() {
        does("a peg at a place where one is ends it", "d1;p30,20;d0", 1, y -> y.drive(1));
        does("a gear that would overlap ends it", "d1;g1.0=6;d0", 1, y -> y.drive(1));
        does("a ring that would overlap ends it", "d1;r1.0=6;d0", 1, y -> y.drive(1));
        does("a gear on no peg ends it", "d1;g2.0=1;d0", 1, y -> y.drive(1));
        does("a ring on no peg ends it", "d1;r2.0=6;d0", 1, y -> y.drive(1));
        does("a driver that is no peg ends it", "d1;d2;d0", 1, y -> y.drive(1));
        does("0 teeth on no peg end it", "d1;g8.1=0;d0", 1, y -> y.drive(1));
        does("the first order ends it", "d2;d1;d0", 0, y -> y.set(0));
        does("the last order ends it", "d0;d1;d2", 2, y -> y.drive(1));
        CHECK.test("promise 13: a gear that would overlap leaves what is there", () -> {
            GearBench x = typed("g1.0=5;g1.0=6");
            CHECK.equal("done", x.build(), 1);
            CHECK.equal("gear", x.peg(1, 4) * 100 + x.peg(1, 2), 105);
        });
        CHECK.test("promise 13: a ring that would overlap leaves what is there", () -> {
            GearBench x = typed("g1.0=5;r1.0=14");
            CHECK.equal("done", x.build(), 1);
            CHECK.equal("gear", x.peg(1, 4) * 100 + x.peg(1, 2), 105);
        });
        CHECK.test("promise 13: no order ends it", () -> {
            GearBench x = typed("p60,60;g2.1=20;r2.0=40;d2;g0.0=0");
            CHECK.equal("done", x.build(), 5);
            CHECK.equal("x and y", x.peg(2, 0) * 100 + x.peg(2, 1), 6060);
            CHECK.equal("gear", x.peg(2, 5) * 100 + x.peg(2, 3), 120);
            CHECK.equal("ring", x.peg(2, 4) * 100 + x.peg(2, 2), 240);
            CHECK.equal("driver", x.count(4), 2);
            CHECK.equal("taken away", x.peg(0, 4), 0);
        });
        CHECK.test("promise 13: a tenth peg ends it", () -> {
            GearBench x = Benches.nine();
            Check.type(x, "d8;p60,60;d0");
            CHECK.equal("done", x.build(), 1);
            CHECK.equal("pegs", x.count(0), 9);
            CHECK.equal("driver", x.count(4), 8);
        });
        CHECK.answers("promise 13: a text of the most orders", 20, () -> {
            GearBench x = Benches.nine();
            Check.type(x, LONGEST);
            return x.build();
        });
        CHECK.test("promise 13: a peg of the same text can be used", () -> {
            GearBench x = new GearBench();
            Check.type(x, "p1,1;g0.0=5;d0;p60,60;r1.1=6");
            CHECK.equal("done", x.build(), 5);
        });
        CHECK.test("promise 13: by the play that is set", () -> {
            GearBench x = typed("g1.0=8");
            x.set(3);
            CHECK.equal("done", x.build(), 1);
            CHECK.equal("they mesh", x.meshes(0, 1), 1);
        });
    }

    private static void promise13Saves() {
        CHECK.answers("promise 13: the buffer is cleared, if all is done", 0, () -> {
            GearBench x = typed("d0;d1");
            x.build();
            return x.clearBuffer();
        });
        CHECK.answers("promise 13: the buffer is cleared, if some is done", 0, () -> {
            GearBench x = typed("d0;d2;d1");
            x.build();
            return x.clearBuffer();
        });
        CHECK.answers("promise 13: the buffer is cleared, if none is done", 0, () -> {
            GearBench x = typed("d2;d1");
            x.build();
            return x.clearBuffer();
        });
        String[] texts = {"p1,1;g0.1=3;d1", "d0;d2;d1", "d2;d1"};
        String[] names = {"all is done", "some is done", "none is done"};
        for (int i = 0; i < texts.length; i++) {
            String text = texts[i];
            CHECK.test("promise 13: undoable, as one call, if " + names[i], () -> {
                GearBench x = typed(text);
                x.build();
                CHECK.equal("saved states", x.count(10), 2);
                CHECK.equal("undo()", x.undo(), 1);
                CHECK.same("the bench before", Check.everything(x), Check.everything(typed("")));
            });
        }
        CHECK.test("promise 13: undone, the buffer is not brought back", () -> {
            GearBench x = typed("d0");
            x.build();
            x.undo();
            CHECK.equal("length", x.clearBuffer(), 0);
        });
    }

    // ---- Promise 14

    private static void promise14() {
        CHECK.refuses("promise 14: there is no saved state", Check.STATE, GearBench::new, x -> x.undo());
        CHECK.test("promise 14: there is none left", () -> {
            GearBench x = new GearBench();
            x.addPeg(1, 1);
            CHECK.equal("left", x.undo(), 0);
            CHECK.throwsJust(Check.STATE, () -> x.undo());
            CHECK.equal("pegs", x.count(0), 0);
        });
        CHECK.test("promise 14: undo() itself is not saved", () -> {
            GearBench x = Benches.fresh();
            x.drive(1);
            x.drive(2);
            CHECK.equal("left", x.undo(), 2);
            CHECK.equal("saved states", x.count(10), 2);
            CHECK.equal("the driver before", x.count(4), 1);
            CHECK.equal("left", x.undo(), 1);
            CHECK.equal("the driver before that", x.count(4), 0);
        });
        CHECK.test("promise 14: the buffer is not undone", () -> {
            GearBench x = Benches.fresh();
            x.drive(1);
            x.append('p');
            x.undo();
            CHECK.equal("its length", x.clearBuffer(), 1);
        });
        CHECK.test("promise 14: the syntax error is told as before", () -> {
            GearBench x = Benches.rich();
            x.undo();
            CHECK.equal("firstError()", x.firstError(), 3);
        });
    }

    private static void promise14Slots() {
        CHECK.test("promise 14, undo: 6 states are saved", () -> {
            GearBench x = drives(5);
            CHECK.equal("saved states", x.count(10), 6);
            undo(x, 6);
            CHECK.equal("pegs before all calls", x.count(0), 0);
        });
        CHECK.test("promise 14, undo: of 7 states the oldest one is dropped", () -> {
            GearBench x = drives(6);
            CHECK.equal("saved states", x.count(10), 6);
            undo(x, 6);
            CHECK.equal("pegs after the first call", x.count(0), 9);
            CHECK.equal("driver after the first call", x.count(4), -1);
            CHECK.throwsJust(Check.STATE, () -> x.undo());
        });
        CHECK.test("promise 14, undo: of 21 states the latest 6 are kept, in their order", () -> {
            GearBench x = drives(20);
            for (int left = 5; left >= 0; left--) {
                CHECK.equal("left", x.undo(), left);
                CHECK.equal("the driver", x.count(4), driverAfter(14 + left));
            }
            CHECK.throwsJust(Check.STATE, () -> x.undo());
        });
        CHECK.test("promise 14, undo: slots that were undone are used again", () -> {
            GearBench x = drives(9);
            undo(x, 4);
            x.drive(7);
            x.drive(8);
            CHECK.equal("saved states", x.count(10), 4);
            undo(x, 1);
            CHECK.equal("undone by 1", x.count(4), 7);
            for (int calls = 5; calls >= 3; calls--) {
                undo(x, 1);
                CHECK.equal("undone to call " + calls, x.count(4), driverAfter(calls));
            }
            CHECK.throwsJust(Check.STATE, () -> x.undo());
        });
        CHECK.test("promise 14, undo: a call that changes nothing drops the oldest one, too", () -> {
            GearBench x = drives(5);
            x.set(0);
            CHECK.equal("saved states", x.count(10), 6);
            undo(x, 6);
            CHECK.equal("pegs after the first call", x.count(0), 9);
        });
        CHECK.test("promise 14, undo: build() drops one state alone", () -> {
            GearBench x = drives(6);
            Check.type(x, "d0;d1;d2");
            x.build();
            CHECK.equal("saved states", x.count(10), 6);
            undo(x, 6);
            CHECK.equal("the driver after the second call", x.count(4), driverAfter(1));
        });
        CHECK.refuses("promise 14, undo: a refused call drops no saved state", Check.INDEX,
                () -> drives(8), x -> x.drive(9));
    }

    private static int driverAfter(int calls) {
        return calls % 9;
    }

    /** Nine pegs by one call, and then so many calls, each of which makes another peg the driver. */
    private static GearBench drives(int calls) {
        GearBench x = Benches.nine();
        for (int call = 1; call <= calls; call++) {
            x.drive(driverAfter(call));
        }
        return x;
    }

    private static void undo(GearBench x, int times) {
        for (int i = 0; i < times; i++) {
            x.undo();
        }
    }

    /** The terms: all but the buffer and the saved states is saved. */
    private static void undoBringsBack() {
        CHECK.test("promise 14, undo: brings back the places", () -> {
            GearBench x = Benches.fresh();
            x.move(1, 44, 55);
            x.undo();
            CHECK.equal("x and y", x.peg(1, 0) * 100 + x.peg(1, 1), 2010);
        });
        CHECK.test("promise 14, undo: brings back the things", () -> {
            GearBench x = Benches.fresh();
            x.putRing(1, 1, 30);
            x.undo();
            CHECK.equal("kind and teeth", x.peg(1, 5) * 100 + x.peg(1, 3), 104);
        });
        CHECK.test("promise 14, undo: brings back the driver and the speeds", () -> {
            GearBench x = Benches.fresh();
            x.drive(3);
            x.undo();
            CHECK.equal("driver", x.count(4), 0);
            CHECK.equal("speed", x.speed(1, 0), -1);
        });
        CHECK.test("promise 14, undo: brings back the goal's peg and fraction", () -> {
            GearBench x = Benches.fresh();
            x.goal(1, -1, 1);
            x.goal(2, 1, 2);
            x.undo();
            CHECK.equal("peg", x.count(7), 1);
            CHECK.equal("reached", x.count(8), 1);
        });
        CHECK.test("promise 14, undo: brings back the denominator of the goal", () -> {
            GearBench x = Benches.rich();
            x.goal(2, 2, 5);
            x.undo();
            CHECK.equal("reached", x.count(8), 1);
        });
        CHECK.test("promise 14, undo: brings back that there was no goal", () -> {
            GearBench x = Benches.fresh();
            x.goal(1, -1, 1);
            x.undo();
            CHECK.equal("peg", x.count(7), -1);
        });
        CHECK.test("promise 14, undo: brings back the play", () -> {
            GearBench x = Benches.fresh();
            x.set(3);
            x.undo();
            CHECK.equal("play", x.set(1), 0);
        });
        CHECK.test("promise 14, undo: brings back a jam", () -> {
            GearBench x = Benches.jammed();
            x.set(0);
            CHECK.equal("no jam", x.count(6), 0);
            x.undo();
            CHECK.equal("jam", x.count(6), 1);
        });
    }

    /** The terms: what is not marked "undoable" saves nothing; looks, and what would be, change nothing at all. */
    private static void whatSavesNothing() {
        CHECK.test("promise 14, undo: append() saves nothing", () -> {
            GearBench x = Benches.fresh();
            x.append('d');
            CHECK.equal("saved states", x.count(10), 1);
        });
        CHECK.test("promise 14, undo: clearBuffer() saves nothing", () -> {
            GearBench x = Benches.fresh();
            x.clearBuffer();
            CHECK.equal("saved states", x.count(10), 1);
        });
        CHECK.changesNothing("promise 15: nothing is changed by peg", Benches::rich, x -> x.peg(1, 6));
        CHECK.changesNothing("promise 16: nothing is changed by speed", Benches::rich, x -> x.speed(1, 0));
        CHECK.changesNothing("promise 17: nothing is changed by meshes", Benches::rich, x -> x.meshes(0, 1));
        CHECK.changesNothing("promise 18: nothing is changed by train", Benches::rich, x -> x.train(0, 2, 1));
        CHECK.changesNothing("promise 19: nothing is changed by ratio", Benches::rich, x -> x.ratio(0, 2, 1));
        CHECK.changesNothing("promise 20: nothing is changed by marks", Benches::rich, x -> x.marks());
        CHECK.changesNothing("promise 21: nothing is changed by count", Benches::rich, x -> x.count(9));
        for (int what = 0; what <= 3; what++) {
            int asked = what;
            CHECK.changesNothing("promise 22: nothing is changed by ifPut " + what, Benches::rich,
                    x -> x.ifPut(1, 0, 4, asked));
            CHECK.changesNothing("promise 22: nothing is changed by ifPut of what would overlap " + what,
                    Benches::rich, x -> x.ifPut(1, 0, 20, asked));
        }
        CHECK.changesNothing("promise 23: nothing is changed by solution", TextEdgeTest::unreached, x -> x.solution(0));
        CHECK.changesNothing("promise 24: nothing is changed by culprit", Benches::jammed, x -> x.culprit());
        CHECK.changesNothing("promise 25: nothing is changed by turningShare", Benches::rich, x -> x.turningShare());
        CHECK.changesNothing("promise 26: nothing is changed by digest", TextEdgeTest::unreached, x -> x.digest());
    }

    private static GearBench unreached() {
        GearBench x = Benches.rich();
        x.goal(2, 4, 7);
        return x;
    }
}
