/** The example of README.md; ReadmeTest holds that it stands there just so, with what it prints. */
public final class Example {
    public static void main(String[] args) {
        GearBench bench = new GearBench();

        // By calls: 5 + 3 teeth at a distance of 8, so they mesh.
        bench.addPeg(10, 10);
        bench.addPeg(18, 10);
        bench.putGear(0, 0, 5);
        bench.putGear(1, 0, 3);
        bench.drive(0);
        tellSpeed(bench, 1);

        // By a text: a third peg, joined with peg 1 on the other level.
        String orders = "g1.1=8;p18,22;g2.1=4";
        for (int i = 0; i < orders.length(); i++) {
            bench.append(orders.charAt(i));
        }
        System.out.println("orders done: " + bench.build());
        tellSpeed(bench, 2);
        System.out.println("all marks come back after " + bench.marks() + " turns of the driver");

        // The train from peg 0 to peg 2, and its ratio.
        System.out.println("pegs of the train: " + bench.train(0, 2, 0));
        System.out.println("its ratio: " + bench.ratio(0, 2, 0) + " by " + bench.ratio(0, 2, 1));

        // A goal, and the first gear that would reach it; with a play of 1 gears may stand a little off.
        bench.set(1);
        System.out.println("goal reached: " + bench.goal(2, 4, 1));
        System.out.println("a gear for it: peg " + bench.solution(0) + ", level " + bench.solution(1)
                + ", teeth " + bench.solution(2));

        // undo() takes back the goal, and then the play.
        bench.undo();
        System.out.println("saved states left: " + bench.undo());

        // What cannot be done is refused, and changes nothing.
        System.out.println("it would overlap: " + (bench.ifPut(1, 0, 4, 0) == GearBench.NONE));
        try {
            bench.putGear(1, 0, 4);
        } catch (IllegalStateException refused) {
            System.out.println("still " + bench.peg(1, 2) + " teeth");
        }
    }

    private static void tellSpeed(GearBench bench, int peg) {
        System.out.println("speed of peg " + peg + ": " + bench.speed(peg, 0) + " by " + bench.speed(peg, 1));
    }
}
