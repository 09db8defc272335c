/** A puzzle bench of gears. What each call promises stands in shared/DOC.md. */
public final class GearBench {
    public static final int NONE = -1;

    private static final int MOST_PEGS = 9;
    private static final int LEVELS = 2;
    private static final int LAST_PLACE = 60;
    private static final int MOST_GEAR_TEETH = 20;
    private static final int GEAR_CHOICES = MOST_GEAR_TEETH + 1;
    private static final int LEAST_RING_TEETH = 6;
    private static final int MOST_RING_TEETH = 40;
    private static final int MOST_PLAY = 3;
    private static final int MOST_GOAL = 99;
    private static final int FIRST_CODE = 33;
    private static final int LAST_CODE = 126;
    private static final int MOST_CODES = 60;
    // The shortest order has two characters.
    private static final int MOST_ORDERS = 30;
    private static final int MOST_PARTS = 3;
    private static final int MOST_SAVED = 6;
    // Two longs have their common divisor after fewer than 100 steps.
    private static final int MOST_GCD_STEPS = 200;

    private static final int NOTHING = 0;
    private static final int GEAR = 1;
    private static final int RING = 2;

    private static final int LAST_PEG_PROPERTY = 8;
    private static final int LAST_COUNT = 10;
    private static final int LAST_TRAIN_PROPERTY = 3;
    private static final int LAST_IF_PUT = 3;
    private static final int LAST_SOLUTION = 2;

    private static final long FIRST_HASH = 2753L;
    private static final long MANTISSA_UNIT = 4503599627370496L;
    private static final int MANTISSA_BITS = 52;
    private static final long EXPONENT_OF_ONE = 1023L;

    private final Bench bench;
    private final Works works;
    // Changes are tried on a second bench, so that a refused one leaves no trace.
    private final Bench trial;
    private final Works trialWorks;
    private final Row row;
    private final Text text;
    private final History history;

    public GearBench() {
        bench = new Bench();
        works = new Works();
        trial = new Bench();
        trialWorks = new Works();
        row = new Row();
        text = new Text();
        history = new History();
    }

    // ---- the bench

    public int addPeg(int x, int y) throws IllegalArgumentException, IllegalStateException {
        needPlace(x, y);
        startTrial();
        if (!trial.tryAdd(x, y)) {
            throw new IllegalStateException("no room for a peg here");
        }
        keepTrial();
        return bench.pegs - 1;
    }

    public int putGear(int peg, int level, int teeth)
            throws IndexOutOfBoundsException, IllegalArgumentException, IllegalStateException {
        needPeg(peg);
        need(isLevel(level) && isGear(teeth));
        return putThing(peg, level, kindOfGear(teeth), teeth);
    }

    public int putRing(int peg, int level, int teeth)
            throws IndexOutOfBoundsException, IllegalArgumentException, IllegalStateException {
        needPeg(peg);
        need(isLevel(level) && teeth >= LEAST_RING_TEETH && teeth <= MOST_RING_TEETH);
        return putThing(peg, level, RING, teeth);
    }

    public int move(int peg, int x, int y)
            throws IndexOutOfBoundsException, IllegalArgumentException, IllegalStateException {
        needPeg(peg);
        needPlace(x, y);
        startTrial();
        if (!trial.tryShift(peg, x, y)) {
            throw new IllegalStateException("no room for this peg there");
        }
        keepTrial();
        return works.neighbours(bench, peg);
    }

    public int flip(int peg) throws IndexOutOfBoundsException, IllegalStateException {
        needPeg(peg);
        startTrial();
        if (!trial.tryTurnOver(peg)) {
            throw new IllegalStateException("something would overlap");
        }
        keepTrial();
        return works.neighbours(bench, peg);
    }

    public int drive(int peg) throws IndexOutOfBoundsException {
        needPeg(peg);
        int previous = bench.driver;
        startTrial();
        trial.driver = peg;
        keepTrial();
        return previous;
    }

    public int goal(int peg, int numerator, int denominator)
            throws IndexOutOfBoundsException, IllegalArgumentException {
        needPeg(peg);
        need(numerator >= -MOST_GOAL && numerator <= MOST_GOAL);
        need(denominator >= 1 && denominator <= MOST_GOAL);
        startTrial();
        trial.setGoal(peg, numerator, denominator);
        keepTrial();
        return toNumber(works.reachesGoal(bench));
    }

    public int set(int play) throws IllegalArgumentException {
        need(play >= 0 && play <= MOST_PLAY);
        int previous = bench.play;
        startTrial();
        trial.play = play;
        keepTrial();
        return previous;
    }

    // ---- texts

    public int append(int code) throws IllegalArgumentException, IllegalStateException {
        need(code >= FIRST_CODE && code <= LAST_CODE);
        if (!text.tryAppend(code)) {
            throw new IllegalStateException("the buffer is full");
        }
        return text.length;
    }

    public int clearBuffer() {
        int length = text.length;
        text.length = 0;
        return length;
    }

    public int firstError() {
        text.read();
        return text.at;
    }

    public int build() throws IllegalArgumentException {
        text.read();
        need(text.whole);
        startTrial();
        int done = 0;
        for (int order = 0; order < text.orders && doOrder(order); order++) {
            done++;
        }
        text.length = 0;
        keepTrial();
        return done;
    }

    public int undo() throws IllegalStateException {
        if (!history.tryRestore(bench)) {
            throw new IllegalStateException("no saved state");
        }
        works.solve(bench);
        return history.size;
    }

    // ---- looks; nothing is changed

    public int peg(int peg, int what) throws IndexOutOfBoundsException, IllegalArgumentException {
        needPeg(peg);
        need(what >= 0 && what <= LAST_PEG_PROPERTY);
        return pegProperty(peg, what);
    }

    public long speed(int peg, int what) throws IndexOutOfBoundsException, IllegalArgumentException {
        needPeg(peg);
        need(what == 0 || what == 1);
        return what == 0 ? works.numerators[peg] : works.denominators[peg];
    }

    public int meshes(int one, int other) throws IndexOutOfBoundsException {
        needPeg(one);
        needPeg(other);
        return works.levelsOf(one, other);
    }

    public int train(int from, int to, int what) throws IndexOutOfBoundsException, IllegalArgumentException {
        needPeg(from);
        needPeg(to);
        need(what >= 0 && what <= LAST_TRAIN_PROPERTY);
        row.find(bench, works, from, to);
        return rowProperty(what);
    }

    public long ratio(int from, int to, int what) throws IndexOutOfBoundsException, IllegalArgumentException {
        needPeg(from);
        needPeg(to);
        need(what == 0 || what == 1);
        row.find(bench, works, from, to);
        return what == 0 ? row.numerator : row.denominator;
    }

    public long marks() {
        return works.turnsOfMarks(bench);
    }

    public int count(int what) throws IllegalArgumentException {
        need(what >= 0 && what <= LAST_COUNT);
        return countOf(what);
    }

    // ---- what would be; nothing is changed

    public int ifPut(int peg, int level, int teeth, int what)
            throws IndexOutOfBoundsException, IllegalArgumentException {
        needPeg(peg);
        need(isLevel(level) && isGear(teeth) && what >= 0 && what <= LAST_IF_PUT);
        startTrial();
        trial.replace(peg, level, kindOfGear(teeth), teeth);
        if (what == 0) {
            return trial.fits(peg, level) ? trial.meshesOnLevel(peg, level) : NONE;
        }
        trialWorks.solve(trial);
        if (what == 1) {
            return toNumber(trialWorks.jam);
        }
        if (what == 2) {
            return trialWorks.joinedPegs;
        }
        // The document answers 0 here without a driver, even for a goal of 0.
        return toNumber(trial.driver != NONE && trialWorks.reachesGoal(trial));
    }

    public int solution(int what) throws IllegalArgumentException {
        need(what >= 0 && what <= LAST_SOLUTION);
        return partOfChange(findChange(), what);
    }

    public int culprit() {
        if (!works.jam) {
            return NONE;
        }
        for (int peg = 0; peg < bench.pegs; peg++) {
            if (peg != bench.driver && freesJam(peg)) {
                return peg;
            }
        }
        return NONE;
    }

    public double turningShare() {
        if (bench.pegs == 0) {
            return 0.0;
        }
        return (double) works.turningPegs(bench) / (double) bench.pegs;
    }

    public long digest() {
        long hash = FIRST_HASH;
        for (int what = 0; what <= LAST_COUNT; what++) {
            hash = mix(hash, countOf(what));
        }
        hash = mix(hash, bench.play);
        for (int peg = 0; peg < bench.pegs; peg++) {
            hash = mixPeg(hash, peg);
        }
        for (int from = 0; from < bench.pegs; from++) {
            for (int to = 0; to < bench.pegs; to++) {
                hash = mixPair(hash, from, to);
            }
        }
        hash = mix(hash, marks());
        int change = findChange();
        for (int what = 0; what <= LAST_SOLUTION; what++) {
            hash = mix(hash, partOfChange(change, what));
        }
        hash = mix(hash, culprit());
        hash = mix(hash, bitsOfShare(turningShare()));
        return text.mixInto(hash);
    }

    // ---- what arguments may be

    private void needPeg(int peg) {
        if (!bench.hasPeg(peg)) {
            throw new IndexOutOfBoundsException("no such peg");
        }
    }

    private static void needPlace(int x, int y) {
        need(x >= 0 && x <= LAST_PLACE && y >= 0 && y <= LAST_PLACE);
    }

    private static void need(boolean allowed) {
        if (!allowed) {
            throw new IllegalArgumentException("an argument or the buffer is not as it must be");
        }
    }

    private static boolean isLevel(int level) {
        return level >= 0 && level < LEVELS;
    }

    private static boolean isGear(int teeth) {
        return teeth >= 0 && teeth <= MOST_GEAR_TEETH;
    }

    private static int kindOfGear(int teeth) {
        return teeth == 0 ? NOTHING : GEAR;
    }

    // ---- changes

    private void startTrial() {
        trial.copyFrom(bench);
    }

    private void keepTrial() {
        history.save(bench);
        bench.copyFrom(trial);
        works.solve(bench);
    }

    private int putThing(int peg, int level, int kind, int teeth) {
        startTrial();
        if (!trial.tryPut(peg, level, kind, teeth)) {
            throw new IllegalStateException("it would overlap");
        }
        keepTrial();
        return bench.meshesOnLevel(peg, level);
    }

    private boolean doOrder(int order) {
        int letter = text.letters[order];
        int first = text.part(order, 0);
        int second = text.part(order, 1);
        int third = text.part(order, 2);
        if (letter == 'p') {
            return trial.tryAdd(first, second);
        }
        if (letter == 'g') {
            return trial.tryPut(first, second, kindOfGear(third), third);
        }
        if (letter == 'r') {
            return trial.tryPut(first, second, RING, third);
        }
        return trial.tryDrive(first);
    }

    // ---- looks

    private int pegProperty(int peg, int what) {
        switch (what) {
            case 0: return bench.x[peg];
            case 1: return bench.y[peg];
            case 2: return bench.teeth[Bench.spot(peg, 0)];
            case 3: return bench.teeth[Bench.spot(peg, 1)];
            case 4: return bench.kinds[Bench.spot(peg, 0)];
            case 5: return bench.kinds[Bench.spot(peg, 1)];
            case 6: return works.neighbours(bench, peg);
            case 7: return works.direction(peg);
            default: return toNumber(works.joined[peg]);
        }
    }

    private int rowProperty(int what) {
        if (row.length == 0) {
            return NONE;
        }
        switch (what) {
            case 0: return row.length;
            case 1: return row.idlers;
            case 2: return row.length > 1 ? row.pegs[1] : NONE;
            default: return toNumber(row.numerator < 0L);
        }
    }

    private int countOf(int what) {
        switch (what) {
            case 0: return bench.pegs;
            case 1: return bench.things(GEAR);
            case 2: return bench.things(RING);
            case 3: return works.meshingPairs(bench);
            case 4: return bench.driver;
            case 5: return works.joinedPegs;
            case 6: return toNumber(works.jam);
            case 7: return bench.goalPeg;
            case 8: return toNumber(works.reachesGoal(bench));
            case 9: return bench.overlaps();
            default: return history.size;
        }
    }

    // ---- what would be

    /** The first change that reaches the goal, as a number that partOfChange() takes apart; NONE if there is none. */
    private int findChange() {
        if (bench.goalPeg == NONE || works.reachesGoal(bench)) {
            return NONE;
        }
        startTrial();
        int changes = bench.pegs * LEVELS * GEAR_CHOICES;
        for (int change = 0; change < changes; change++) {
            if (changeReachesGoal(change)) {
                return change;
            }
        }
        return NONE;
    }

    /** Tries a change on the trial bench, and takes it back. */
    private boolean changeReachesGoal(int change) {
        int peg = partOfChange(change, 0);
        int level = partOfChange(change, 1);
        int teeth = partOfChange(change, 2);
        trial.replace(peg, level, kindOfGear(teeth), teeth);
        boolean reached = trial.fits(peg, level);
        if (reached) {
            trialWorks.solve(trial);
            reached = trialWorks.reachesGoal(trial);
        }
        int spot = Bench.spot(peg, level);
        trial.replace(peg, level, bench.kinds[spot], bench.teeth[spot]);
        return reached;
    }

    private static int partOfChange(int change, int what) {
        if (change == NONE) {
            return NONE;
        }
        int place = change / GEAR_CHOICES;
        switch (what) {
            case 0: return place / LEVELS;
            case 1: return place % LEVELS;
            default: return change % GEAR_CHOICES;
        }
    }

    private boolean freesJam(int peg) {
        startTrial();
        for (int level = 0; level < LEVELS; level++) {
            trial.replace(peg, level, NOTHING, 0);
        }
        trialWorks.solve(trial);
        return !trialWorks.jam && trialWorks.joinedPegs > 1;
    }

    // ---- the digest

    private static long mix(long hash, long value) {
        return 31L * hash + value;
    }

    private long mixPeg(long before, int peg) {
        long hash = before;
        for (int what = 0; what <= LAST_PEG_PROPERTY; what++) {
            hash = mix(hash, pegProperty(peg, what));
        }
        hash = mix(hash, works.numerators[peg]);
        return mix(hash, works.denominators[peg]);
    }

    private long mixPair(long before, int from, int to) {
        row.find(bench, works, from, to);
        long hash = mix(before, works.levelsOf(from, to));
        for (int what = 0; what <= LAST_TRAIN_PROPERTY; what++) {
            hash = mix(hash, rowProperty(what));
        }
        hash = mix(hash, row.numerator);
        return mix(hash, row.denominator);
    }

    /** The bits of a share from 0 to 1; by hand, since LANGUAGE.md leaves no library call for them. */
    private static long bitsOfShare(double share) {
        if (share <= 0.0) {
            return 0L;
        }
        double scaled = share;
        long exponent = EXPONENT_OF_ONE;
        for (int i = 0; i < MANTISSA_BITS && scaled < 1.0; i++) {
            scaled = scaled * 2.0;
            exponent--;
        }
        long mantissa = (long) (scaled * (double) MANTISSA_UNIT) - MANTISSA_UNIT;
        return (exponent << MANTISSA_BITS) + mantissa;
    }

    // ---- numbers

    private static int toNumber(boolean yes) {
        return yes ? 1 : 0;
    }

    /** The greatest number that divides both; 1 rather than 0, so that it can be divided by. */
    private static long commonDivisor(long one, long other) {
        long a = one < 0L ? -one : one;
        long b = other < 0L ? -other : other;
        for (int i = 0; i < MOST_GCD_STEPS && b != 0L; i++) {
            long rest = a % b;
            a = b;
            b = rest;
        }
        return a > 0L ? a : 1L;
    }

    /** What can be saved and restored: pegs with what is on them, driver, goal and play. */
    private static final class Bench {
        private final int[] x = new int[MOST_PEGS];
        private final int[] y = new int[MOST_PEGS];
        private final int[] kinds = new int[LEVELS * MOST_PEGS];
        private final int[] teeth = new int[LEVELS * MOST_PEGS];
        private int pegs = 0;
        private int driver = NONE;
        private int goalPeg = NONE;
        private int goalNumerator = 0;
        private int goalDenominator = 1;
        private int play = 0;

        private void copyFrom(Bench other) {
            System.arraycopy(other.x, 0, x, 0, MOST_PEGS);
            System.arraycopy(other.y, 0, y, 0, MOST_PEGS);
            System.arraycopy(other.kinds, 0, kinds, 0, LEVELS * MOST_PEGS);
            System.arraycopy(other.teeth, 0, teeth, 0, LEVELS * MOST_PEGS);
            pegs = other.pegs;
            driver = other.driver;
            goalPeg = other.goalPeg;
            goalNumerator = other.goalNumerator;
            goalDenominator = other.goalDenominator;
            play = other.play;
        }

        private static int spot(int peg, int level) {
            return level * MOST_PEGS + peg;
        }

        private boolean hasPeg(int peg) {
            return peg >= 0 && peg < pegs;
        }

        private int pegAt(int placeX, int placeY) {
            for (int peg = 0; peg < pegs; peg++) {
                if (x[peg] == placeX && y[peg] == placeY) {
                    return peg;
                }
            }
            return NONE;
        }

        private boolean tryAdd(int placeX, int placeY) {
            if (pegs >= MOST_PEGS || pegAt(placeX, placeY) != NONE) {
                return false;
            }
            x[pegs] = placeX;
            y[pegs] = placeY;
            for (int level = 0; level < LEVELS; level++) {
                replace(pegs, level, NOTHING, 0);
            }
            pegs++;
            return true;
        }

        private void replace(int peg, int level, int kind, int size) {
            kinds[spot(peg, level)] = kind;
            teeth[spot(peg, level)] = size;
        }

        /** Puts a thing; if that cannot be, answers false and leaves all as it was. */
        private boolean tryPut(int peg, int level, int kind, int size) {
            if (!hasPeg(peg)) {
                return false;
            }
            int oldKind = kinds[spot(peg, level)];
            int oldSize = teeth[spot(peg, level)];
            replace(peg, level, kind, size);
            if (fits(peg, level)) {
                return true;
            }
            replace(peg, level, oldKind, oldSize);
            return false;
        }

        private boolean tryShift(int peg, int placeX, int placeY) {
            int there = pegAt(placeX, placeY);
            if (there != NONE && there != peg) {
                return false;
            }
            x[peg] = placeX;
            y[peg] = placeY;
            return fits(peg, 0) && fits(peg, 1);
        }

        private boolean tryTurnOver(int peg) {
            int kind = kinds[spot(peg, 0)];
            int size = teeth[spot(peg, 0)];
            replace(peg, 0, kinds[spot(peg, 1)], teeth[spot(peg, 1)]);
            replace(peg, 1, kind, size);
            return fits(peg, 0) && fits(peg, 1);
        }

        private boolean tryDrive(int peg) {
            if (!hasPeg(peg)) {
                return false;
            }
            driver = peg;
            return true;
        }

        private void setGoal(int peg, int numerator, int denominator) {
            int divisor = (int) commonDivisor(numerator, denominator);
            goalPeg = peg;
            goalNumerator = divisor > 1 ? numerator / divisor : numerator;
            goalDenominator = divisor > 1 ? denominator / divisor : denominator;
        }

        /** The teeth of what drives, below 0 if it turns the other peg against it. */
        private int signedTeeth(int spot, int otherSpot) {
            return kinds[spot] == kinds[otherSpot] ? -teeth[spot] : teeth[spot];
        }

        private int squareOfDistance(int one, int other) {
            int byX = x[one] - x[other];
            int byY = y[one] - y[other];
            return byX * byX + byY * byY;
        }

        /** At which distance of their pegs two things mesh, but for the play; 0 if at none. */
        private int meshDistance(int spot, int otherSpot) {
            if (kinds[spot] == GEAR && kinds[otherSpot] == GEAR) {
                return teeth[spot] + teeth[otherSpot];
            }
            int gap = 0;
            if (kinds[spot] == RING && kinds[otherSpot] == GEAR) {
                gap = teeth[spot] - teeth[otherSpot];
            } else if (kinds[spot] == GEAR && kinds[otherSpot] == RING) {
                gap = teeth[otherSpot] - teeth[spot];
            }
            return gap > 0 ? gap : 0;
        }

        private int leastSquare(int distance) {
            int least = distance > play ? distance - play : 0;
            return least * least;
        }

        private int mostSquare(int distance) {
            int most = distance + play;
            return most * most;
        }

        private boolean areMeshing(int one, int other, int level) {
            if (one == other) {
                return false;
            }
            int distance = meshDistance(spot(one, level), spot(other, level));
            int square = squareOfDistance(one, other);
            return distance > 0 && square >= leastSquare(distance) && square <= mostSquare(distance);
        }

        private boolean areOverlapping(int one, int other, int level) {
            int spot = spot(one, level);
            int otherSpot = spot(other, level);
            if (one == other || kinds[spot] == NOTHING || kinds[otherSpot] == NOTHING) {
                return false;
            }
            int square = squareOfDistance(one, other);
            int distance = meshDistance(spot, otherSpot);
            if (kinds[spot] == kinds[otherSpot]) {
                return kinds[spot] == GEAR && square < leastSquare(distance);
            }
            int sum = teeth[spot] + teeth[otherSpot];
            return square < sum * sum && (distance == 0 || square > mostSquare(distance));
        }

        private boolean fits(int peg, int level) {
            for (int other = 0; other < pegs; other++) {
                if (areOverlapping(peg, other, level)) {
                    return false;
                }
            }
            return true;
        }

        private int meshesOnLevel(int peg, int level) {
            int found = 0;
            for (int other = 0; other < pegs; other++) {
                if (areMeshing(peg, other, level)) {
                    found++;
                }
            }
            return found;
        }

        private int things(int kind) {
            int found = 0;
            for (int peg = 0; peg < pegs; peg++) {
                for (int level = 0; level < LEVELS; level++) {
                    if (kinds[spot(peg, level)] == kind) {
                        found++;
                    }
                }
            }
            return found;
        }

        private int overlaps() {
            int found = 0;
            for (int one = 0; one < pegs; one++) {
                for (int other = one + 1; other < pegs; other++) {
                    for (int level = 0; level < LEVELS; level++) {
                        if (areOverlapping(one, other, level)) {
                            found++;
                        }
                    }
                }
            }
            return found;
        }
    }

    /** How the pegs of a bench mesh and turn. */
    private static final class Works {
        // For each two pegs: 1 for the level 0 and 2 for the level 1.
        private final int[] meshing = new int[MOST_PEGS * MOST_PEGS];
        private final long[] numerators = new long[MOST_PEGS];
        private final long[] denominators = new long[MOST_PEGS];
        private final boolean[] joined = new boolean[MOST_PEGS];
        private final int[] queue = new int[MOST_PEGS];
        private int joinedPegs = 0;
        private boolean jam = false;

        private void solve(Bench bench) {
            findMeshing(bench);
            stop();
            for (int peg = 0; peg < MOST_PEGS; peg++) {
                joined[peg] = false;
            }
            joinedPegs = 0;
            jam = false;
            if (!bench.hasPeg(bench.driver)) {
                return;
            }
            join(bench.driver, 1L, 1L);
            for (int next = 0; next < joinedPegs && next < MOST_PEGS; next++) {
                turnNeighbours(bench, queue[next]);
            }
            if (jam) {
                stop();
            }
        }

        private void findMeshing(Bench bench) {
            for (int one = 0; one < bench.pegs; one++) {
                for (int other = one; other < bench.pegs; other++) {
                    int levels = 0;
                    for (int level = 0; level < LEVELS; level++) {
                        if (bench.areMeshing(one, other, level)) {
                            levels += level + 1;
                        }
                    }
                    meshing[one * MOST_PEGS + other] = levels;
                    meshing[other * MOST_PEGS + one] = levels;
                }
            }
        }

        private void stop() {
            for (int peg = 0; peg < MOST_PEGS; peg++) {
                numerators[peg] = 0L;
                denominators[peg] = 1L;
            }
        }

        private void join(int peg, long numerator, long denominator) {
            if (joinedPegs >= MOST_PEGS) {
                return;
            }
            joined[peg] = true;
            numerators[peg] = numerator;
            denominators[peg] = denominator;
            queue[joinedPegs] = peg;
            joinedPegs++;
        }

        private void turnNeighbours(Bench bench, int from) {
            for (int to = 0; to < bench.pegs; to++) {
                for (int level = 0; level < LEVELS; level++) {
                    if (meshOnLevel(from, to, level)) {
                        turn(bench, from, to, level);
                    }
                }
            }
        }

        private void turn(Bench bench, int from, int to, int level) {
            int spot = Bench.spot(from, level);
            int otherSpot = Bench.spot(to, level);
            long numerator = numerators[from] * bench.signedTeeth(spot, otherSpot);
            long denominator = denominators[from] * bench.teeth[otherSpot];
            long divisor = commonDivisor(numerator, denominator);
            if (divisor > 1L) {
                numerator = numerator / divisor;
                denominator = denominator / divisor;
            }
            if (!joined[to]) {
                join(to, numerator, denominator);
            } else if (numerators[to] != numerator || denominators[to] != denominator) {
                jam = true;
            }
        }

        private int levelsOf(int one, int other) {
            return meshing[one * MOST_PEGS + other];
        }

        private boolean meshOnLevel(int one, int other, int level) {
            return (levelsOf(one, other) & (level + 1)) != 0;
        }

        private int neighbours(Bench bench, int peg) {
            int found = 0;
            for (int other = 0; other < bench.pegs; other++) {
                if (levelsOf(peg, other) != 0) {
                    found++;
                }
            }
            return found;
        }

        private int meshingPairs(Bench bench) {
            int ends = 0;
            for (int peg = 0; peg < bench.pegs; peg++) {
                ends += neighbours(bench, peg);
            }
            return ends / 2;
        }

        private int direction(int peg) {
            if (numerators[peg] == 0L) {
                return 0;
            }
            return numerators[peg] > 0L ? 1 : 2;
        }

        private int turningPegs(Bench bench) {
            int found = 0;
            for (int peg = 0; peg < bench.pegs; peg++) {
                if (direction(peg) != 0) {
                    found++;
                }
            }
            return found;
        }

        private boolean reachesGoal(Bench bench) {
            int peg = bench.goalPeg;
            return bench.hasPeg(peg)
                    && numerators[peg] == bench.goalNumerator
                    && denominators[peg] == bench.goalDenominator;
        }

        private long turnsOfMarks(Bench bench) {
            if (turningPegs(bench) == 0) {
                return 0L;
            }
            // Eight driven pegs of at most 40 teeth keep this below 40 to the power of 8.
            long turns = 1L;
            for (int peg = 0; peg < bench.pegs; peg++) {
                long divisor = commonDivisor(turns, denominators[peg]);
                if (divisor > 0L) {
                    turns = turns / divisor * denominators[peg];
                }
            }
            return turns;
        }
    }

    /** The train between two pegs. */
    private static final class Row {
        private final int[] pegs = new int[MOST_PEGS];
        private final int[] stepsLeft = new int[MOST_PEGS];
        private int length = 0;
        private int idlers = 0;
        private long numerator = 0L;
        private long denominator = 1L;

        /** Finds the train; its length is 0, and its ratio 0 by 1, if there is none. */
        private void find(Bench bench, Works works, int from, int to) {
            length = 0;
            idlers = 0;
            numerator = 0L;
            denominator = 1L;
            findStepsLeft(bench, works, to);
            if (stepsLeft[from] == NONE) {
                return;
            }
            numerator = 1L;
            pegs[0] = from;
            length = 1;
            for (int step = stepsLeft[from] - 1; step >= 0 && length < MOST_PEGS; step--) {
                addNext(bench, works, step);
            }
            for (int place = 1; place + 1 < length; place++) {
                if (levelFrom(works, place - 1) == levelFrom(works, place)) {
                    idlers++;
                }
            }
        }

        private void findStepsLeft(Bench bench, Works works, int to) {
            for (int peg = 0; peg < MOST_PEGS; peg++) {
                stepsLeft[peg] = NONE;
            }
            stepsLeft[to] = 0;
            for (int steps = 0; steps < bench.pegs; steps++) {
                for (int peg = 0; peg < bench.pegs; peg++) {
                    if (stepsLeft[peg] == steps) {
                        reachNeighbours(bench, works, peg);
                    }
                }
            }
        }

        private void reachNeighbours(Bench bench, Works works, int peg) {
            for (int other = 0; other < bench.pegs; other++) {
                if (stepsLeft[other] == NONE && works.levelsOf(peg, other) != 0) {
                    stepsLeft[other] = stepsLeft[peg] + 1;
                }
            }
        }

        private void addNext(Bench bench, Works works, int steps) {
            int last = pegs[length - 1];
            for (int peg = 0; peg < bench.pegs; peg++) {
                if (stepsLeft[peg] == steps && works.levelsOf(last, peg) != 0) {
                    pegs[length] = peg;
                    length++;
                    turn(bench, last, peg, levelFrom(works, length - 2));
                    return;
                }
            }
        }

        private void turn(Bench bench, int from, int to, int level) {
            int spot = Bench.spot(from, level);
            int otherSpot = Bench.spot(to, level);
            long driving = numerator * bench.signedTeeth(spot, otherSpot);
            long driven = denominator * bench.teeth[otherSpot];
            long divisor = commonDivisor(driving, driven);
            numerator = divisor > 1L ? driving / divisor : driving;
            denominator = divisor > 1L ? driven / divisor : driven;
        }

        /** The level on which the peg at this place of the train meshes with the next one. */
        private int levelFrom(Works works, int place) {
            return works.meshOnLevel(pegs[place], pegs[place + 1], 0) ? 0 : 1;
        }
    }

    /** The buffer, and what the last reading found in it. */
    private static final class Text {
        private final int[] codes = new int[MOST_CODES];
        private int length = 0;
        private final int[] letters = new int[MOST_ORDERS];
        private final int[] parts = new int[MOST_ORDERS * MOST_PARTS];
        private int orders = 0;
        // The reading never goes past a syntax error, so it ends at the first one.
        private int at = 0;
        private boolean whole = false;

        private boolean tryAppend(int code) {
            if (length >= MOST_CODES) {
                return false;
            }
            codes[length] = code;
            length++;
            return true;
        }

        private int part(int order, int which) {
            return parts[order * MOST_PARTS + which];
        }

        private void read() {
            at = 0;
            orders = 0;
            whole = false;
            boolean more = true;
            for (int i = 0; i < MOST_ORDERS && more; i++) {
                boolean read = readOrder();
                whole = read && at == length;
                more = read && readSign(';');
            }
        }

        private boolean readOrder() {
            if (at >= length || orders >= MOST_ORDERS) {
                return false;
            }
            letters[orders] = codes[at];
            boolean read = readParts(codes[at]);
            if (read) {
                orders++;
            }
            return read;
        }

        private boolean readParts(int letter) {
            switch (letter) {
                case 'p':
                    return readSign('p') && readPart(0, 0, LAST_PLACE)
                            && readSign(',') && readPart(1, 0, LAST_PLACE);
                case 'g':
                    return readSign('g') && readSpot() && readPart(2, 0, MOST_GEAR_TEETH);
                case 'r':
                    return readSign('r') && readSpot() && readPart(2, LEAST_RING_TEETH, MOST_RING_TEETH);
                case 'd':
                    return readSign('d') && readPart(0, 0, MOST_PEGS - 1);
                default:
                    return false;
            }
        }

        private boolean readSpot() {
            return readPart(0, 0, MOST_PEGS - 1) && readSign('.')
                    && readPart(1, 0, LEVELS - 1) && readSign('=');
        }

        private boolean readSign(int code) {
            if (at >= length || codes[at] != code) {
                return false;
            }
            at++;
            return true;
        }

        private boolean readPart(int which, int least, int most) {
            int number = NONE;
            // A number that begins with 0 has no more digits.
            for (int i = 0; i < MOST_CODES && at < length && number != 0; i++) {
                int digit = codes[at] - '0';
                int longer = number == NONE ? digit : number * 10 + digit;
                if (digit < 0 || digit > 9 || !beginsNumber(longer, least, most)) {
                    break;
                }
                number = longer;
                at++;
            }
            parts[orders * MOST_PARTS + which] = number;
            return number >= least && number <= most;
        }

        /** Whether a number of this range begins with these digits; none here has more than two. */
        private static boolean beginsNumber(int digits, int least, int most) {
            if (digits >= least && digits <= most) {
                return true;
            }
            return digits > 0 && digits * 10 <= most && digits * 10 + 9 >= least;
        }

        private long mixInto(long before) {
            long hash = mix(before, length);
            for (int i = 0; i < length; i++) {
                hash = mix(hash, codes[i]);
            }
            return hash;
        }
    }

    /** The saved states, the oldest one first, in slots that are used again. */
    private static final class History {
        private final Bench[] slots = new Bench[MOST_SAVED];
        private int first = 0;
        private int size = 0;

        private void save(Bench bench) {
            if (size == MOST_SAVED) {
                first = (first + 1) % MOST_SAVED;
                size--;
            }
            int slot = (first + size) % MOST_SAVED;
            Bench latest = slots[slot];
            if (latest == null) {
                latest = new Bench();
                slots[slot] = latest;
            }
            latest.copyFrom(bench);
            size++;
        }

        private boolean tryRestore(Bench bench) {
            if (size == 0) {
                return false;
            }
            Bench latest = slots[(first + size - 1) % MOST_SAVED];
            if (latest == null) {
                return false;
            }
            bench.copyFrom(latest);
            size--;
            return true;
        }
    }
}
