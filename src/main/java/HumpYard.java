import java.util.ArrayList;
import java.util.Arrays;

/**
 * A hump yard. The points and tracks are one binary tree of NODES: point p is node p,
 * track t is node 7 + t, and behind node p lie nodes 2 p + 1 and 2 p + 2. Where a cut is
 * in the tree is told by one number, the node that it comes to next (or the track that it
 * came to), for all that a cut has passed lies above that node.
 */
public final class HumpYard {
    public static final int NONE = -1;

    private static final int POINTS = 7;
    private static final int TRACKS = 8;
    private static final int RETARDERS = 9;
    private static final int LEVELS = 3;

    private static final int MOST_WAGONS = 20;
    private static final int MOST_TONS = 90;
    private static final int MOST_RESISTANCE = 16;
    private static final int MOST_CUTS = 60;
    private static final int MOST_PUSH = 4;
    private static final int MOST_WISH = 20;
    private static final int MOST_FREE = 800;
    private static final int MOST_TICKS = 400;
    private static final int MOST_STEPS = 15;
    private static final int TURN_TICKS = 4;
    private static final int TRACK_BEGIN = 200;

    private static final int WAITS = 0;
    private static final int ROLLS = 1;
    private static final int LANDED = 2;
    private static final int STANDS = 3;

    private static final int EVENT_ASTRAY = 0;
    private static final int EVENT_CAUGHT = 1;
    private static final int EVENT_LANDS = 2;
    private static final int EVENT_STANDS = 3;
    private static final int EVENTS_KEPT = 200;
    private static final int EVENT_NUMBERS = 4;

    private final ArrayList<Cut> cuts = new ArrayList<>();
    /** Those of the cuts that roll, in the order of their numbers. */
    private final ArrayList<Cut> rolling = new ArrayList<>();
    private final EventLog events = new EventLog();

    private final int[] sides = new int[POINTS];
    private final int[] turning = new int[POINTS];
    private final boolean[] stuckPoints = new boolean[POINTS];
    private final double[] wishes = new double[RETARDERS];
    private final double[] free = new double[TRACKS];
    private final int[] ended = new int[TRACKS];
    private final int[] sidings = new int[TRACKS * MOST_CUTS];

    private double pushSpeed = 0;
    private double topSpeed = 0;
    private int started = 0;
    private int landed = 0;
    private int standing = 0;
    private int ticks = 0;

    public HumpYard() {
        Arrays.fill(wishes, 2.0);
        Arrays.fill(free, 400.0);
    }

    public int cut(int wagons, int tons, double resistance, int track)
            throws IllegalArgumentException, UnsupportedOperationException {
        if (wagons < 1 || wagons > MOST_WAGONS) {
            throw new IllegalArgumentException("wagons are 1 to 20");
        }
        if (tons < 1 || tons > MOST_TONS) {
            throw new IllegalArgumentException("tons are 1 to 90");
        }
        if (!isWithin(resistance, MOST_RESISTANCE)) {
            throw new IllegalArgumentException("resistance is 0 to 16");
        }
        if (!isTrack(track)) {
            throw new IllegalArgumentException("tracks are 0 to 7");
        }
        if (cuts.size() >= MOST_CUTS) {
            throw new UnsupportedOperationException("there are 60 cuts");
        }
        Cut added = new Cut(cuts.size(), wagons, tons, resistance, track);
        cuts.add(added);
        return added.number;
    }

    public double push(double speed) throws IllegalArgumentException {
        if (!isWithin(speed, MOST_PUSH)) {
            throw new IllegalArgumentException("the push is 0 to 4");
        }
        double before = pushSpeed;
        pushSpeed = speed;
        return before;
    }

    public double wish(int retarder, double speed)
            throws IndexOutOfBoundsException, IllegalArgumentException {
        if (retarder < 0 || retarder >= RETARDERS) {
            throw new IndexOutOfBoundsException("retarders are 0 to 8");
        }
        if (!isWithin(speed, MOST_WISH)) {
            throw new IllegalArgumentException("a wish is 0 to 20");
        }
        double before = wishes[retarder];
        wishes[retarder] = speed;
        return before;
    }

    public boolean stick(int point, boolean stuck) throws IndexOutOfBoundsException {
        if (!isPoint(point)) {
            throw new IndexOutOfBoundsException("points are 0 to 6");
        }
        boolean before = stuckPoints[point];
        stuckPoints[point] = stuck;
        return before;
    }

    public double fill(int track, double free)
            throws IndexOutOfBoundsException, IllegalArgumentException {
        if (!isTrack(track)) {
            throw new IndexOutOfBoundsException("tracks are 0 to 7");
        }
        if (!isWithin(free, MOST_FREE)) {
            throw new IllegalArgumentException("free metres are 0 to 800");
        }
        double before = this.free[track];
        this.free[track] = free;
        return before;
    }

    public int tick(int n) throws IllegalArgumentException {
        if (n < 1 || n > MOST_TICKS) {
            throw new IllegalArgumentException("ticks are 1 to 400");
        }
        int before = events.count;
        for (int i = 0; i < n; i++) {
            ticks++;
            goOnTurning();
            beginTurning();
            rollAll();
            catchAll();
            endAll();
            pushNext();
        }
        return events.count - before;
    }

    public double place(int cut) throws IndexOutOfBoundsException {
        return cutOf(cut).place;
    }

    public double speed(int cut) throws IndexOutOfBoundsException {
        return cutOf(cut).speed;
    }

    public int told(int cut, int what) throws IndexOutOfBoundsException, IllegalArgumentException {
        Cut asked = cutOf(cut);
        switch (what) {
            case 0:
                return asked.state;
            case 1:
                return trackOf(asked.node);
            case 2:
                return levelOf(asked.node);
            case 3:
                return asked.caughtBy;
            default:
                throw new IllegalArgumentException("of a cut 0 to 3 is told");
        }
    }

    public int point(int point, int what) throws IndexOutOfBoundsException, IllegalArgumentException {
        if (!isPoint(point)) {
            throw new IndexOutOfBoundsException("points are 0 to 6");
        }
        switch (what) {
            case 0:
                return sides[point];
            case 1:
                return turning[point];
            case 2:
                return isBusy(point) ? 1 : 0;
            default:
                throw new IllegalArgumentException("of a point 0 to 2 is told");
        }
    }

    public int siding(int track, int k) throws IndexOutOfBoundsException {
        if (!isTrack(track)) {
            throw new IndexOutOfBoundsException("tracks are 0 to 7");
        }
        boolean isThere = k >= 0 && k < ended[track] && k < MOST_CUTS;
        return isThere ? sidings[track * MOST_CUTS + k] : NONE;
    }

    public int event(int i, int what) throws IndexOutOfBoundsException, IllegalArgumentException {
        if (!events.keeps(i)) {
            throw new IndexOutOfBoundsException("no such event is kept");
        }
        if (what < 0 || what >= EVENT_NUMBERS) {
            throw new IllegalArgumentException("of an event 0 to 3 is told");
        }
        return events.number(i, what);
    }

    public int about(int what) throws IllegalArgumentException {
        switch (what) {
            case 0:
                return cuts.size();
            case 1:
                return cuts.size() - started;
            case 2:
                return rolling.size();
            case 3:
                return landed;
            case 4:
                return standing;
            case 5:
                return events.count;
            case 6:
                return ticks;
            default:
                throw new IllegalArgumentException("about the yard 0 to 6 is told");
        }
    }

    public double fastest() {
        return topSpeed;
    }

    private Cut cutOf(int number) {
        if (number < 0 || number >= cuts.size()) {
            throw new IndexOutOfBoundsException("there is no such cut");
        }
        return cuts.get(number);
    }

    // Written so that NaN is outside.
    private static boolean isWithin(double number, int most) {
        return number >= 0 && number <= most;
    }

    private static boolean isTrack(int track) {
        return track >= 0 && track < TRACKS;
    }

    private static boolean isPoint(int node) {
        return node >= 0 && node < POINTS;
    }

    // ---- the tree of points and tracks

    private static int nodeBehind(int point, int side) {
        return 2 * point + 1 + side;
    }

    private static int trackOf(int node) {
        int track = node - POINTS;
        return isTrack(track) ? track : NONE;
    }

    private static int levelOf(int node) {
        if (node < 1) {
            return 0;
        }
        if (node < 3) {
            return 1;
        }
        return node < POINTS ? 2 : LEVELS;
    }

    private static int pointPlace(int point) {
        return 80 + 40 * levelOf(point);
    }

    // Whether one comes from a node to another; each comes to itself.
    private static boolean leadsTo(int from, int to) {
        int node = to;
        for (int level = 0; level < LEVELS && node > from; level++) {
            node = (node - 1) / 2;
        }
        return node == from;
    }

    private static boolean isOneWay(int node, int other) {
        return leadsTo(node, other) || leadsTo(other, node);
    }

    // ---- steps 1 and 2 of a tick: points

    private void goOnTurning() {
        for (int point = 0; point < POINTS; point++) {
            if (turning[point] > 0 && !stuckPoints[point]) {
                turning[point]--;
                if (turning[point] == 0) {
                    sides[point] = 1 - sides[point];
                }
            }
        }
    }

    private void beginTurning() {
        for (int point = 0; point < POINTS; point++) {
            if (turning[point] == 0 && !stuckPoints[point] && !isBusy(point)) {
                Cut first = firstBoundFor(point);
                if (first != null && first.wishedSide(point) != sides[point]) {
                    turning[point] = TURN_TICKS;
                }
            }
        }
    }

    private boolean isBusy(int point) {
        int place = pointPlace(point);
        for (int i = 0; i < rolling.size(); i++) {
            Cut cut = rolling.get(i);
            if (cut.place >= place - 15 && cut.rear() <= place + 2.5 && isOneWay(cut.node, point)) {
                return true;
            }
        }
        return false;
    }

    private Cut firstBoundFor(int point) {
        Cut first = null;
        for (int i = 0; i < rolling.size(); i++) {
            Cut cut = rolling.get(i);
            if (cut.isBoundFor(point) && (first == null || cut.place > first.place)) {
                first = cut;
            }
        }
        return first;
    }

    // ---- step 3: cuts roll

    private void rollAll() {
        for (int i = 0; i < rolling.size(); i++) {
            Cut cut = rolling.get(i);
            double before = cut.place;
            double reached = cut.speed + acceleration(cut) * 0.125;
            cut.speed = reached < 0 ? 0 : reached;
            cut.place = before + cut.speed * 0.125;
            passPoints(cut, before);
        }
    }

    private double acceleration(Cut cut) {
        double acceleration = 9.8125 * (grade(cut.place) - cut.resistance / 1024);
        acceleration = acceleration - 0.25 * brakeSteps(cut, 0, 30);
        int track = trackOf(cut.node);
        if (track != NONE) {
            acceleration = acceleration - 0.25 * brakeSteps(cut, 1 + track, 210);
        }
        return acceleration;
    }

    private static double grade(double place) {
        if (place < 60) {
            return 0.046875;
        }
        return place < TRACK_BEGIN ? 0.0125 : 0.001;
    }

    private int brakeSteps(Cut cut, int retarder, int begin) {
        if (retarder < 0 || retarder >= RETARDERS) {
            return 0;
        }
        double wish = wishes[retarder];
        boolean isIn = cut.place >= begin && cut.rear() <= begin + 20;
        if (!isIn || cut.speed <= wish) {
            return 0;
        }
        return Math.min((int) ((cut.speed - wish) * 8) + 1, MOST_STEPS);
    }

    private void passPoints(Cut cut, double before) {
        for (int level = 0; level < LEVELS && isPoint(cut.node); level++) {
            int place = pointPlace(cut.node);
            if (before < place && cut.place >= place) {
                pass(cut, cut.node);
            }
        }
    }

    private void pass(Cut cut, int point) {
        int side = sides[point];
        if (leadsTo(point, cut.wishedNode) && cut.wishedSide(point) != side) {
            events.note(EVENT_ASTRAY, cut.number, point, ticks);
        }
        cut.node = nodeBehind(point, side);
    }

    // ---- step 4: cuts catch up

    private void catchAll() {
        for (int i = 0; i < rolling.size(); i++) {
            Cut cut = rolling.get(i);
            Cut ahead = aheadOf(i, cut);
            if (ahead != null && cut.place >= ahead.rear()) {
                catchUp(cut, ahead);
            }
        }
    }

    private Cut aheadOf(int i, Cut cut) {
        for (int j = i - 1; j >= 0; j--) {
            Cut other = rolling.get(j);
            if (isOneWay(cut.node, other.node)) {
                return other;
            }
        }
        return null;
    }

    private void catchUp(Cut cut, Cut ahead) {
        double common = (cut.mass * cut.speed + ahead.mass * ahead.speed) / (cut.mass + ahead.mass);
        cut.place = ahead.rear();
        cut.speed = common;
        ahead.speed = common;
        if (cut.caughtBy != ahead.number) {
            cut.caughtBy = ahead.number;
            events.note(EVENT_CAUGHT, cut.number, ahead.number, ticks);
        }
    }

    // ---- step 5: cuts come to an end

    private void endAll() {
        for (int i = 0; i < rolling.size(); i++) {
            Cut cut = rolling.get(i);
            int track = trackOf(cut.node);
            if (track != NONE && cut.place >= TRACK_BEGIN) {
                endOnTrack(cut, track);
            }
        }
        // Only now, so that the loop above meets each cut once.
        for (int i = rolling.size() - 1; i >= 0; i--) {
            if (rolling.get(i).state != ROLLS) {
                rolling.remove(i);
            }
        }
    }

    private void endOnTrack(Cut cut, int track) {
        if (cut.place >= TRACK_BEGIN + free[track]) {
            land(cut, track);
        } else if (cut.speed == 0 && cut.rear() >= TRACK_BEGIN) {
            stand(cut, track);
        }
    }

    private void land(Cut cut, int track) {
        double left = free[track] - cut.length;
        free[track] = left < 0 ? 0 : left;
        topSpeed = cut.speed > topSpeed ? cut.speed : topSpeed;
        cut.state = LANDED;
        landed++;
        enterSiding(cut, track);
        events.note(EVENT_LANDS, cut.number, track, ticks);
    }

    private void stand(Cut cut, int track) {
        free[track] = cut.rear() - TRACK_BEGIN;
        cut.state = STANDS;
        standing++;
        enterSiding(cut, track);
        events.note(EVENT_STANDS, cut.number, track, ticks);
    }

    private void enterSiding(Cut cut, int track) {
        int k = ended[track];
        if (k < MOST_CUTS) {
            sidings[track * MOST_CUTS + k] = cut.number;
            ended[track] = k + 1;
        }
    }

    // ---- step 6: the next cut comes over the crest

    private void pushNext() {
        if (pushSpeed > 0 && started < cuts.size() && isCrestClear()) {
            Cut next = cuts.get(started);
            started++;
            next.state = ROLLS;
            next.place = 0;
            next.speed = pushSpeed;
            rolling.add(next);
        }
    }

    private boolean isCrestClear() {
        for (int i = 0; i < rolling.size(); i++) {
            if (rolling.get(i).rear() < 2.5) {
                return false;
            }
        }
        return true;
    }

    private static final class Cut {
        final int number;
        final double length;
        final double mass;
        final double resistance;
        final int wishedNode;
        int state = WAITS;
        double place = 0;
        double speed = 0;
        int node = 0;
        int caughtBy = NONE;

        Cut(int number, int wagons, int tons, double resistance, int track) {
            this.number = number;
            this.length = 12.5 * wagons;
            this.mass = wagons * tons;
            this.resistance = resistance;
            this.wishedNode = POINTS + track;
        }

        double rear() {
            return place - length;
        }

        boolean isBoundFor(int point) {
            return leadsTo(node, point) && leadsTo(point, wishedNode);
        }

        // Means something only at a point that lies before the wished track.
        int wishedSide(int point) {
            return leadsTo(nodeBehind(point, 1), wishedNode) ? 1 : 0;
        }
    }

    /** The latest events in a ring, each in a row of four numbers. */
    private static final class EventLog {
        final int[] rows = new int[EVENTS_KEPT * EVENT_NUMBERS];
        int count = 0;

        void note(int kind, int first, int second, int tick) {
            int row = Math.floorMod(count, EVENTS_KEPT) * EVENT_NUMBERS;
            rows[row] = kind;
            rows[row + 1] = first;
            rows[row + 2] = second;
            rows[row + 3] = tick;
            count++;
        }

        boolean keeps(int i) {
            return i >= 0 && i < EVENTS_KEPT && i < count;
        }

        // Of an event that is kept; what is 0 to 3.
        int number(int i, int what) {
            return rows[Math.floorMod(count - 1 - i, EVENTS_KEPT) * EVENT_NUMBERS + what];
        }
    }
}
