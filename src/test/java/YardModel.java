import java.util.ArrayList;
import java.util.List;

/**
 * The document once more, told as plainly as can be and in another way than in HumpYard:
 * a cut keeps the points that it has passed, and all that is asked about its way is looked
 * up in the written-out routes of the eight tracks.
 */
final class YardModel {
    /** Of each track: the points on its way, and behind each the side to take there. */
    private static final int[][] ROUTES = {
        {0, 0, 1, 0, 3, 0}, {0, 0, 1, 0, 3, 1}, {0, 0, 1, 1, 4, 0}, {0, 0, 1, 1, 4, 1},
        {0, 1, 2, 0, 5, 0}, {0, 1, 2, 0, 5, 1}, {0, 1, 2, 1, 6, 0}, {0, 1, 2, 1, 6, 1},
    };
    private static final double[] POINT_PLACES = {80, 120, 120, 160, 160, 160, 160};

    private static final class Wagons {
        int number;
        int wagons;
        int tons;
        double resistance;
        int wished;
        int state;
        double place;
        double speed;
        int caughtBy = -1;
        final List<int[]> passed = new ArrayList<>();

        double length() {
            return 12.5 * wagons;
        }

        double rear() {
            return place - length();
        }

        double mass() {
            return wagons * tons;
        }

        boolean hasPassed(int point) {
            return passed.stream().anyMatch(p -> p[0] == point);
        }

        boolean canComeToTrack(int track) {
            return passed.stream().allMatch(p -> sideOnRoute(track, p[0]) == p[1]);
        }

        boolean canComeToPoint(int point) {
            for (int track = 0; track < 8; track++) {
                if (canComeToTrack(track) && sideOnRoute(track, point) >= 0) {
                    return true;
                }
            }
            return false;
        }

        int track() {
            for (int track = 0; track < 8; track++) {
                if (passed.size() == 3 && canComeToTrack(track)) {
                    return track;
                }
            }
            return -1;
        }

        boolean wentAs(Wagons other) {
            for (int[] mine : passed) {
                for (int[] its : other.passed) {
                    if (mine[0] == its[0] && mine[1] != its[1]) {
                        return false;
                    }
                }
            }
            return true;
        }
    }

    private final List<Wagons> all = new ArrayList<>();
    private final List<int[]> events = new ArrayList<>();
    private final List<List<Integer>> ends = new ArrayList<>();
    private final int[] side = new int[7];
    private final int[] left = new int[7];
    private final boolean[] stuck = new boolean[7];
    private final double[] wish = {2, 2, 2, 2, 2, 2, 2, 2, 2};
    private final double[] free = {400, 400, 400, 400, 400, 400, 400, 400};
    private double push;
    private double fastest;
    private int now;

    YardModel() {
        for (int track = 0; track < 8; track++) {
            ends.add(new ArrayList<>());
        }
    }

    /** The side to take at a point on the way to a track; -1 if the point is not on that way. */
    private static int sideOnRoute(int track, int point) {
        for (int i = 0; i < 6; i += 2) {
            if (ROUTES[track][i] == point) {
                return ROUTES[track][i + 1];
            }
        }
        return -1;
    }

    private static void need(boolean fits) {
        if (!fits) {
            throw new IllegalArgumentException();
        }
    }

    private static void needIndex(int index, int size) {
        if (index < 0 || index >= size) {
            throw new IndexOutOfBoundsException();
        }
    }

    int cut(int wagons, int tons, double resistance, int track) {
        need(wagons >= 1 && wagons <= 20 && tons >= 1 && tons <= 90);
        need(resistance >= 0 && resistance <= 16 && track >= 0 && track <= 7);
        if (all.size() == 60) {
            throw new UnsupportedOperationException();
        }
        Wagons w = new Wagons();
        w.number = all.size();
        w.wagons = wagons;
        w.tons = tons;
        w.resistance = resistance;
        w.wished = track;
        all.add(w);
        return w.number;
    }

    double push(double speed) {
        need(speed >= 0 && speed <= 4);
        double before = push;
        push = speed;
        return before;
    }

    double wish(int retarder, double speed) {
        needIndex(retarder, 9);
        need(speed >= 0 && speed <= 20);
        double before = wish[retarder];
        wish[retarder] = speed;
        return before;
    }

    boolean stick(int point, boolean isStuck) {
        needIndex(point, 7);
        boolean before = stuck[point];
        stuck[point] = isStuck;
        return before;
    }

    double fill(int track, double metres) {
        needIndex(track, 8);
        need(metres >= 0 && metres <= 800);
        double before = free[track];
        free[track] = metres;
        return before;
    }

    int tick(int n) {
        need(n >= 1 && n <= 400);
        int before = events.size();
        for (int i = 0; i < n; i++) {
            now++;
            points();
            all.stream().filter(w -> w.state == 1).forEach(this::roll);
            all.stream().filter(w -> w.state == 1).forEach(this::catchUp);
            all.stream().filter(w -> w.state == 1).forEach(this::end);
            crest();
        }
        return events.size() - before;
    }

    private void points() {
        for (int p = 0; p < 7; p++) {
            if (left[p] > 0 && !stuck[p] && --left[p] == 0) {
                side[p] = 1 - side[p];
            }
        }
        for (int p = 0; p < 7; p++) {
            Wagons first = null;
            for (Wagons w : all) {
                boolean bound = w.state == 1 && !w.hasPassed(p) && w.canComeToPoint(p)
                        && sideOnRoute(w.wished, p) >= 0;
                if (bound && (first == null || w.place > first.place)) {
                    first = w;
                }
            }
            boolean fixed = left[p] > 0 || stuck[p] || isBusy(p);
            if (!fixed && first != null && sideOnRoute(first.wished, p) != side[p]) {
                left[p] = 4;
            }
        }
    }

    private boolean isBusy(int p) {
        for (Wagons w : all) {
            boolean near = w.place >= POINT_PLACES[p] - 15 && w.rear() <= POINT_PLACES[p] + 2.5;
            if (w.state == 1 && near && (w.hasPassed(p) || w.canComeToPoint(p))) {
                return true;
            }
        }
        return false;
    }

    private double braked(double acceleration, Wagons w, int retarder, double begin, double end) {
        if (w.place >= begin && w.rear() <= end && w.speed > wish[retarder]) {
            int steps = (int) ((w.speed - wish[retarder]) * 8) + 1;
            return acceleration - 0.25 * (steps > 15 ? 15 : steps);
        }
        return acceleration;
    }

    private void roll(Wagons w) {
        double grade = w.place < 60 ? 0.046875 : w.place < 200 ? 0.0125 : 0.001;
        double acceleration = 9.8125 * (grade - w.resistance / 1024);
        acceleration = braked(acceleration, w, 0, 30, 50);
        if (w.track() >= 0) {
            acceleration = braked(acceleration, w, 1 + w.track(), 210, 230);
        }
        double before = w.place;
        w.speed = Math.max(w.speed + acceleration * 0.125, 0);
        w.place = w.place + w.speed * 0.125;
        for (int p = 0; p < 7; p++) {
            boolean reached = before < POINT_PLACES[p] && w.place >= POINT_PLACES[p];
            if (reached && !w.hasPassed(p) && w.canComeToPoint(p)) {
                boolean could = w.canComeToTrack(w.wished);
                w.passed.add(new int[] {p, side[p]});
                if (could && !w.canComeToTrack(w.wished)) {
                    note(0, w.number, p);
                }
            }
        }
    }

    private void catchUp(Wagons w) {
        Wagons ahead = null;
        for (Wagons other : all.subList(0, w.number)) {
            if (other.state == 1 && w.wentAs(other)) {
                ahead = other;
            }
        }
        if (ahead == null || w.place < ahead.rear()) {
            return;
        }
        w.place = ahead.rear();
        double speed = (w.mass() * w.speed + ahead.mass() * ahead.speed) / (w.mass() + ahead.mass());
        w.speed = speed;
        ahead.speed = speed;
        if (w.caughtBy != ahead.number) {
            note(1, w.number, ahead.number);
        }
        w.caughtBy = ahead.number;
    }

    private void end(Wagons w) {
        int track = w.track();
        if (track < 0 || w.place < 200) {
            return;
        }
        if (w.place >= 200 + free[track]) {
            free[track] = Math.max(free[track] - w.length(), 0);
            fastest = Math.max(fastest, w.speed);
            endAs(2, w, track);
        } else if (w.speed == 0 && w.rear() >= 200) {
            free[track] = w.rear() - 200;
            endAs(3, w, track);
        }
    }

    private void endAs(int state, Wagons w, int track) {
        w.state = state;
        ends.get(track).add(w.number);
        note(state, w.number, track);
    }

    private void crest() {
        if (push <= 0 || all.stream().anyMatch(w -> w.state == 1 && w.rear() < 2.5)) {
            return;
        }
        for (Wagons w : all) {
            if (w.state == 0) {
                w.state = 1;
                w.speed = push;
                return;
            }
        }
    }

    private void note(int kind, int first, int second) {
        events.add(new int[] {kind, first, second, now});
    }

    double place(int cut) {
        needIndex(cut, all.size());
        return all.get(cut).place;
    }

    double speed(int cut) {
        needIndex(cut, all.size());
        return all.get(cut).speed;
    }

    int told(int cut, int what) {
        needIndex(cut, all.size());
        need(what >= 0 && what <= 3);
        Wagons w = all.get(cut);
        return new int[] {w.state, w.track(), w.passed.size(), w.caughtBy}[what];
    }

    int point(int point, int what) {
        needIndex(point, 7);
        need(what >= 0 && what <= 2);
        return new int[] {side[point], left[point], isBusy(point) ? 1 : 0}[what];
    }

    int siding(int track, int k) {
        needIndex(track, 8);
        return k >= 0 && k < ends.get(track).size() ? ends.get(track).get(k) : -1;
    }

    int event(int i, int what) {
        needIndex(i, Math.min(200, events.size()));
        need(what >= 0 && what <= 3);
        return events.get(events.size() - 1 - i)[what];
    }

    int about(int what) {
        need(what >= 0 && what <= 6);
        if (what == 0) {
            return all.size();
        }
        if (what >= 5) {
            return what == 5 ? events.size() : now;
        }
        return (int) all.stream().filter(w -> w.state == what - 1).count();
    }

    double fastest() {
        return fastest;
    }
}
