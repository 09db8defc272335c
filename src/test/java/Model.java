import java.util.ArrayList;
import java.util.List;
import java.util.regex.Pattern;

/**
 * The document a second time, as plainly as can be and by other ways than the program: speeds by sweeps until
 * nothing changes, trains by trying all rows, texts by a regular expression. Refused calls answer REFUSED and
 * the name's first letters.
 */
final class Model {
    static final class Refused extends RuntimeException {
        private static final long serialVersionUID = 1L;
        final String name;

        Refused(String name) {
            this.name = name;
        }
    }

    private static final Pattern WHOLE = pattern();
    private static final String[] ENDS = {"", "0", ",0", "0,0", "0.0=6", ".0=6", "0=6", "=6", "6", "d0"};

    static final class State {
        final List<int[]> pegs = new ArrayList<>();     // x, y, kind 0, kind 1, teeth 0, teeth 1
        int driver = -1;
        int goalPeg = -1;
        int goalNumerator = 0;
        int goalDenominator = 1;
        int play = 0;

        State copy() {
            State other = new State();
            for (int[] peg : pegs) {
                other.pegs.add(peg.clone());
            }
            other.driver = driver;
            other.goalPeg = goalPeg;
            other.goalNumerator = goalNumerator;
            other.goalDenominator = goalDenominator;
            other.play = play;
            return other;
        }
    }

    State now = new State();
    private final List<State> saved = new ArrayList<>();
    String buffer = "";

    private static Pattern pattern() {
        String place = "(?:[0-9]|[1-5][0-9]|60)";
        String peg = "[0-8]\\.[01]=";
        String order = "(?:p" + place + "," + place + "|g" + peg + "(?:[0-9]|1[0-9]|20)|r" + peg
                + "(?:[6-9]|[1-3][0-9]|40)|d[0-8])";
        return Pattern.compile(order + "(?:;" + order + ")*");
    }

    private static void require(boolean allowed, String otherwise) {
        if (!allowed) {
            throw new Refused(otherwise);
        }
    }

    private void requirePeg(int peg) {
        require(0 <= peg && peg < now.pegs.size(), "IndexOutOfBoundsException");
    }

    private static void requireRange(int value, int least, int most) {
        require(least <= value && value <= most, "IllegalArgumentException");
    }

    private void keep(State next) {
        saved.add(now);
        if (saved.size() > 6) {
            saved.remove(0);
        }
        now = next;
    }

    // ---- geometry, by the words of the document

    static double root(State s, int one, int other) {
        int dx = s.pegs.get(one)[0] - s.pegs.get(other)[0];
        int dy = s.pegs.get(one)[1] - s.pegs.get(other)[1];
        return Math.sqrt(dx * dx + dy * dy);
    }

    /** 0 nothing, 1 they mesh, 2 they overlap; roots of small whole squares are exact where it matters. */
    static int relation(State s, int one, int other, int level) {
        int kind = s.pegs.get(one)[2 + level];
        int otherKind = s.pegs.get(other)[2 + level];
        int a = s.pegs.get(one)[4 + level];
        int b = s.pegs.get(other)[4 + level];
        double distance = root(s, one, other);
        if (one == other || kind == 0 || otherKind == 0 || kind == 2 && otherKind == 2) {
            return 0;
        }
        if (kind == 1 && otherKind == 1) {
            if (distance < Math.max(0, a + b - s.play)) {
                return 2;
            }
            return distance <= a + b + s.play ? 1 : 0;
        }
        if (kind == 2) {
            return relation(s, other, one, level);
        }
        if (b > a && distance >= Math.max(0, b - a - s.play) && distance <= b - a + s.play) {
            return 1;
        }
        return distance < a + b && (b <= a || distance > b - a + s.play) ? 2 : 0;
    }

    static boolean overlapsSomething(State s, int peg, int level) {
        for (int other = 0; other < s.pegs.size(); other++) {
            if (relation(s, peg, other, level) == 2) {
                return true;
            }
        }
        return false;
    }

    static int meshes(State s, int one, int other) {
        return (relation(s, one, other, 0) == 1 ? 1 : 0) + (relation(s, one, other, 1) == 1 ? 2 : 0);
    }

    static int neighbours(State s, int peg, int levels) {
        int found = 0;
        for (int other = 0; other < s.pegs.size(); other++) {
            if ((meshes(s, peg, other) & levels) != 0) {
                found++;
            }
        }
        return found;
    }

    // ---- turning

    static long[] shortened(long numerator, long denominator) {
        long a = Math.abs(numerator);
        long b = denominator;
        while (b != 0) {
            long rest = a % b;
            a = b;
            b = rest;
        }
        return new long[] {numerator / a, denominator / a};
    }

    static long[] stepped(State s, long[] speed, int from, int to, int level) {
        int[] driving = s.pegs.get(from);
        int[] driven = s.pegs.get(to);
        int sign = driving[2 + level] == 1 && driven[2 + level] == 1 ? -1 : 1;
        return shortened(sign * speed[0] * driving[4 + level], speed[1] * driven[4 + level]);
    }

    static final class Turning {
        final long[][] speeds;
        int joined = 0;
        boolean jam = false;
        final boolean[] isJoined;

        Turning(State s) {
            int pegs = s.pegs.size();
            speeds = new long[pegs][];
            isJoined = new boolean[pegs];
            if (s.driver >= 0) {
                speeds[s.driver] = new long[] {1, 1};
            }
            int[][] meshes = new int[pegs][pegs];
            for (int one = 0; one < pegs; one++) {
                for (int other = 0; other < pegs; other++) {
                    meshes[one][other] = Model.meshes(s, one, other);
                }
            }
            boolean changed = true;
            while (changed) {
                changed = sweep(s, meshes);
            }
            for (int peg = 0; peg < pegs; peg++) {
                isJoined[peg] = speeds[peg] != null;
                joined += isJoined[peg] ? 1 : 0;
            }
            for (int peg = 0; peg < pegs; peg++) {
                if (jam || speeds[peg] == null) {
                    speeds[peg] = new long[] {0, 1};
                }
            }
        }

        private boolean sweep(State s, int[][] meshes) {
            boolean changed = false;
            for (int from = meshes.length - 1; from >= 0; from--) {
                for (int to = meshes.length - 1; to >= 0; to--) {
                    for (int level = 1; level >= 0; level--) {
                        if (speeds[from] == null || (meshes[from][to] & (1 << level)) == 0) {
                            continue;
                        }
                        long[] due = stepped(s, speeds[from], from, to, level);
                        if (speeds[to] == null) {
                            speeds[to] = due;
                            changed = true;
                        } else if (speeds[to][0] != due[0] || speeds[to][1] != due[1]) {
                            jam = true;
                        }
                    }
                }
            }
            return changed;
        }

        boolean reaches(State s) {
            return s.goalPeg >= 0 && speeds[s.goalPeg][0] * s.goalDenominator
                    == s.goalNumerator * speeds[s.goalPeg][1];
        }

        int turning() {
            int found = 0;
            for (long[] speed : speeds) {
                found += speed[0] != 0 ? 1 : 0;
            }
            return found;
        }

        long marks() {
            if (turning() == 0) {
                return 0;
            }
            long turns = 1;
            for (long[] speed : speeds) {
                turns = turns * shortened(turns, speed[1])[1];
            }
            return turns;
        }
    }

    // ---- trains: all rows of 1 peg, then of 2 .., in the order of their pegs

    static List<Integer> train(State s, int from, int to) {
        for (int length = 1; length <= s.pegs.size(); length++) {
            List<Integer> row = new ArrayList<>();
            row.add(from);
            if (extend(s, row, to, length)) {
                return row;
            }
        }
        return null;
    }

    private static boolean extend(State s, List<Integer> row, int to, int length) {
        int last = row.get(row.size() - 1);
        if (row.size() == length) {
            return last == to;
        }
        for (int next = 0; next < s.pegs.size(); next++) {
            if (meshes(s, last, next) != 0 && !row.contains(next)) {
                row.add(next);
                if (extend(s, row, to, length)) {
                    return true;
                }
                row.remove(row.size() - 1);
            }
        }
        return false;
    }

    private static int levelTaken(State s, int one, int other) {
        return relation(s, one, other, 0) == 1 ? 0 : 1;
    }

    static long[] ratio(State s, List<Integer> row) {
        long[] speed = {1, 1};
        for (int i = 1; i < row.size(); i++) {
            speed = stepped(s, speed, row.get(i - 1), row.get(i), levelTaken(s, row.get(i - 1), row.get(i)));
        }
        return speed;
    }

    static int trainNumber(State s, List<Integer> row, int what) {
        if (row == null) {
            return -1;
        }
        if (what == 0) {
            return row.size();
        }
        if (what == 2) {
            return row.size() == 1 ? -1 : row.get(1);
        }
        if (what == 3) {
            return ratio(s, row)[0] < 0 ? 1 : 0;
        }
        int idlers = 0;
        for (int i = 1; i + 1 < row.size(); i++) {
            if (levelTaken(s, row.get(i), row.get(i - 1)) == levelTaken(s, row.get(i), row.get(i + 1))) {
                idlers++;
            }
        }
        return idlers;
    }

    // ---- changes

    int addPeg(int x, int y) {
        requireRange(x, 0, 60);
        requireRange(y, 0, 60);
        State next = now.copy();
        require(canAdd(next, x, y), "IllegalStateException");
        keep(next);
        return now.pegs.size() - 1;
    }

    private static boolean canAdd(State s, int x, int y) {
        for (int[] peg : s.pegs) {
            if (peg[0] == x && peg[1] == y) {
                return false;
            }
        }
        if (s.pegs.size() == 9) {
            return false;
        }
        s.pegs.add(new int[] {x, y, 0, 0, 0, 0});
        return true;
    }

    private static boolean canPut(State s, int peg, int level, int kind, int teeth) {
        if (peg >= s.pegs.size()) {
            return false;
        }
        int[] old = s.pegs.get(peg);
        int[] with = old.clone();
        with[2 + level] = kind;
        with[4 + level] = teeth;
        s.pegs.set(peg, with);
        if (overlapsSomething(s, peg, level)) {
            s.pegs.set(peg, old);
            return false;
        }
        return true;
    }

    int put(int peg, int level, int kind, int teeth) {
        requirePeg(peg);
        requireRange(level, 0, 1);
        requireRange(teeth, kind == 2 ? 6 : 0, kind == 2 ? 40 : 20);
        State next = now.copy();
        require(canPut(next, peg, level, teeth == 0 ? 0 : kind, teeth), "IllegalStateException");
        keep(next);
        return neighbours(now, peg, 1 << level);
    }

    int move(int peg, int x, int y) {
        requirePeg(peg);
        requireRange(x, 0, 60);
        requireRange(y, 0, 60);
        for (int other = 0; other < now.pegs.size(); other++) {
            int[] there = now.pegs.get(other);
            require(other == peg || there[0] != x || there[1] != y, "IllegalStateException");
        }
        State next = now.copy();
        next.pegs.get(peg)[0] = x;
        next.pegs.get(peg)[1] = y;
        return keepIfFree(next, peg);
    }

    int flip(int peg) {
        requirePeg(peg);
        State next = now.copy();
        int[] old = now.pegs.get(peg);
        next.pegs.set(peg, new int[] {old[0], old[1], old[3], old[2], old[5], old[4]});
        return keepIfFree(next, peg);
    }

    private int keepIfFree(State next, int peg) {
        require(!overlapsSomething(next, peg, 0) && !overlapsSomething(next, peg, 1), "IllegalStateException");
        keep(next);
        return neighbours(now, peg, 3);
    }

    int drive(int peg) {
        requirePeg(peg);
        int previous = now.driver;
        State next = now.copy();
        next.driver = peg;
        keep(next);
        return previous;
    }

    int goal(int peg, int numerator, int denominator) {
        requirePeg(peg);
        requireRange(numerator, -99, 99);
        requireRange(denominator, 1, 99);
        State next = now.copy();
        next.goalPeg = peg;
        next.goalNumerator = numerator;
        next.goalDenominator = denominator;
        keep(next);
        return count(8);
    }

    int set(int play) {
        requireRange(play, 0, 3);
        int previous = now.play;
        State next = now.copy();
        next.play = play;
        keep(next);
        return previous;
    }

    int append(int code) {
        requireRange(code, 33, 126);
        require(buffer.length() < 60, "IllegalStateException");
        buffer = buffer + (char) code;
        return buffer.length();
    }

    int clearBuffer() {
        int length = buffer.length();
        buffer = "";
        return length;
    }

    int firstError() {
        for (int length = 1; length <= buffer.length(); length++) {
            if (!beginsBench(buffer.substring(0, length))) {
                return length - 1;
            }
        }
        return buffer.length();
    }

    private static boolean beginsBench(String text) {
        for (String end : ENDS) {
            if (WHOLE.matcher(text + end).matches()) {
                return true;
            }
        }
        return false;
    }

    int build() {
        require(WHOLE.matcher(buffer).matches(), "IllegalArgumentException");
        State next = now.copy();
        int done = 0;
        for (String order : buffer.split(";")) {
            String[] parts = order.substring(1).split("[.,=]");
            int[] numbers = new int[3];
            for (int i = 0; i < parts.length; i++) {
                numbers[i] = Integer.parseInt(parts[i]);
            }
            if (!canDo(next, order.charAt(0), numbers)) {
                break;
            }
            done++;
        }
        buffer = "";
        keep(next);
        return done;
    }

    private static boolean canDo(State s, char letter, int[] numbers) {
        switch (letter) {
            case 'p':
                return canAdd(s, numbers[0], numbers[1]);
            case 'g':
                return canPut(s, numbers[0], numbers[1], numbers[2] == 0 ? 0 : 1, numbers[2]);
            case 'r':
                return canPut(s, numbers[0], numbers[1], 2, numbers[2]);
            default:
                if (numbers[0] >= s.pegs.size()) {
                    return false;
                }
                s.driver = numbers[0];
                return true;
        }
    }

    int undo() {
        require(!saved.isEmpty(), "IllegalStateException");
        now = saved.remove(saved.size() - 1);
        return saved.size();
    }

    // ---- looks

    int peg(int peg, int what) {
        requirePeg(peg);
        requireRange(what, 0, 8);
        int[] here = now.pegs.get(peg);
        Turning turning = new Turning(now);
        int[] direction = {2, 0, 1};
        int[] answers = {here[0], here[1], here[4], here[5], here[2], here[3], neighbours(now, peg, 3),
            direction[Long.signum(turning.speeds[peg][0]) + 1], turning.isJoined[peg] ? 1 : 0};
        return answers[what];
    }

    long speed(int peg, int what) {
        requirePeg(peg);
        requireRange(what, 0, 1);
        return new Turning(now).speeds[peg][what];
    }

    int meshes(int one, int other) {
        requirePeg(one);
        requirePeg(other);
        return meshes(now, one, other);
    }

    int train(int from, int to, int what) {
        requirePeg(from);
        requirePeg(to);
        requireRange(what, 0, 3);
        return trainNumber(now, train(now, from, to), what);
    }

    long ratio(int from, int to, int what) {
        requirePeg(from);
        requirePeg(to);
        requireRange(what, 0, 1);
        List<Integer> row = train(now, from, to);
        return row == null ? what : ratio(now, row)[what];
    }

    long marks() {
        return new Turning(now).marks();
    }

    int count(int what) {
        requireRange(what, 0, 10);
        Turning turning = new Turning(now);
        int[] kinds = new int[3];
        int meshing = 0;
        int overlapping = 0;
        for (int one = 0; one < now.pegs.size(); one++) {
            kinds[now.pegs.get(one)[2]]++;
            kinds[now.pegs.get(one)[3]]++;
            for (int other = 0; other < one; other++) {
                meshing += meshes(now, one, other) != 0 ? 1 : 0;
                overlapping += relation(now, one, other, 0) == 2 ? 1 : 0;
                overlapping += relation(now, one, other, 1) == 2 ? 1 : 0;
            }
        }
        int[] answers = {now.pegs.size(), kinds[1], kinds[2], meshing, now.driver, turning.joined,
            turning.jam ? 1 : 0, now.goalPeg, turning.reaches(now) ? 1 : 0, overlapping, saved.size()};
        return answers[what];
    }

    // ---- what would be

    private State with(int peg, int level, int teeth) {
        State other = now.copy();
        other.pegs.get(peg)[2 + level] = teeth == 0 ? 0 : 1;
        other.pegs.get(peg)[4 + level] = teeth;
        return other;
    }

    int ifPut(int peg, int level, int teeth, int what) {
        requirePeg(peg);
        requireRange(level, 0, 1);
        requireRange(teeth, 0, 20);
        requireRange(what, 0, 3);
        State other = with(peg, level, teeth);
        Turning turning = new Turning(other);
        boolean reached = other.driver >= 0 && turning.reaches(other);
        int[] answers = {overlapsSomething(other, peg, level) ? -1 : neighbours(other, peg, 1 << level),
            turning.jam ? 1 : 0, turning.joined, reached ? 1 : 0};
        return answers[what];
    }

    int[] solution() {
        if (now.goalPeg >= 0 && !new Turning(now).reaches(now)) {
            for (int change = 0; change < now.pegs.size() * 42; change++) {
                int[] parts = {change / 42, change / 21 % 2, change % 21};
                State other = with(parts[0], parts[1], parts[2]);
                if (!overlapsSomething(other, parts[0], parts[1]) && new Turning(other).reaches(other)) {
                    return parts;
                }
            }
        }
        return new int[] {-1, -1, -1};
    }

    int solution(int what) {
        requireRange(what, 0, 2);
        return solution()[what];
    }

    int culprit() {
        if (!new Turning(now).jam) {
            return -1;
        }
        for (int peg = 0; peg < now.pegs.size(); peg++) {
            State other = now.copy();
            int[] here = now.pegs.get(peg);
            other.pegs.set(peg, new int[] {here[0], here[1], 0, 0, 0, 0});
            Turning turning = new Turning(other);
            if (peg != now.driver && !turning.jam && turning.joined >= 2) {
                return peg;
            }
        }
        return -1;
    }

    double turningShare() {
        int pegs = now.pegs.size();
        return pegs == 0 ? 0.0 : new Turning(now).turning() / (double) pegs;
    }

    long digest() {
        List<Long> values = new ArrayList<>();
        for (int what = 0; what <= 10; what++) {
            values.add((long) count(what));
        }
        values.add((long) now.play);
        for (int peg = 0; peg < now.pegs.size(); peg++) {
            for (int what = 0; what <= 8; what++) {
                values.add((long) peg(peg, what));
            }
            values.add(speed(peg, 0));
            values.add(speed(peg, 1));
        }
        for (int one = 0; one < now.pegs.size(); one++) {
            for (int other = 0; other < now.pegs.size(); other++) {
                addPair(values, one, other);
            }
        }
        values.add(marks());
        for (int part : solution()) {
            values.add((long) part);
        }
        values.add((long) culprit());
        values.add(Double.doubleToLongBits(turningShare()));
        values.add((long) buffer.length());
        for (char code : buffer.toCharArray()) {
            values.add((long) code);
        }
        long hash = 2753;
        for (long value : values) {
            hash = 31 * hash + value;
        }
        return hash;
    }

    private void addPair(List<Long> values, int one, int other) {
        values.add((long) meshes(one, other));
        List<Integer> row = train(now, one, other);
        for (int what = 0; what <= 3; what++) {
            values.add((long) trainNumber(now, row, what));
        }
        long[] speed = row == null ? new long[] {0, 1} : ratio(now, row);
        values.add(speed[0]);
        values.add(speed[1]);
    }
}
