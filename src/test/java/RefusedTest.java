import java.util.ArrayList;
import java.util.List;
import java.util.function.Function;

/** All promises: what is refused, by which exception of several, and that nothing has changed by it. */
public final class RefusedTest {
    private static final Class<? extends RuntimeException> INDEX = IndexOutOfBoundsException.class;
    private static final Class<? extends RuntimeException> ARGUMENT = IllegalArgumentException.class;
    private static final Class<? extends RuntimeException> UNSUPPORTED = UnsupportedOperationException.class;

    private record Refused(int promise, String name, Class<? extends RuntimeException> by,
            Function<HumpYard, Object> call) {
    }

    private static List<Refused> orders() {
        List<Refused> all = new ArrayList<>();
        all.add(new Refused(2, "cut, wagons", ARGUMENT, y -> y.cut(0, 1, 0, 0)));
        all.add(new Refused(2, "cut, wagons", ARGUMENT, y -> y.cut(21, 1, 0, 0)));
        all.add(new Refused(2, "cut, tons", ARGUMENT, y -> y.cut(1, 0, 0, 0)));
        all.add(new Refused(2, "cut, tons", ARGUMENT, y -> y.cut(1, 91, 0, 0)));
        all.add(new Refused(2, "cut, resistance", ARGUMENT, y -> y.cut(1, 1, -1, 0)));
        all.add(new Refused(2, "cut, resistance", ARGUMENT, y -> y.cut(1, 1, 17, 0)));
        all.add(new Refused(2, "cut, track", ARGUMENT, y -> y.cut(1, 1, 0, -1)));
        all.add(new Refused(2, "cut, track", ARGUMENT, y -> y.cut(1, 1, 0, 8)));
        all.add(new Refused(3, "push", ARGUMENT, y -> y.push(-1)));
        all.add(new Refused(3, "push", ARGUMENT, y -> y.push(4.5)));
        all.add(new Refused(4, "wish, retarder", INDEX, y -> y.wish(-1, 1)));
        all.add(new Refused(4, "wish, retarder", INDEX, y -> y.wish(9, 1)));
        all.add(new Refused(5, "stick, point", INDEX, y -> y.stick(-1, true)));
        all.add(new Refused(5, "stick, point", INDEX, y -> y.stick(7, true)));
        all.add(new Refused(6, "fill, track", INDEX, y -> y.fill(-1, 1)));
        all.add(new Refused(6, "fill, track", INDEX, y -> y.fill(8, 1)));
        all.add(new Refused(7, "tick", ARGUMENT, y -> y.tick(0)));
        all.add(new Refused(7, "tick", ARGUMENT, y -> y.tick(401)));
        for (int i = 0; i < 9; i++) {
            int retarder = i;
            all.add(new Refused(4, "wish, speed", ARGUMENT, y -> y.wish(retarder, -1)));
            all.add(new Refused(4, "wish, speed", ARGUMENT, y -> y.wish(retarder, 21)));
        }
        for (int i = 0; i < 8; i++) {
            int track = i;
            all.add(new Refused(6, "fill, free", ARGUMENT, y -> y.fill(track, -1)));
            all.add(new Refused(6, "fill, free", ARGUMENT, y -> y.fill(track, 801)));
        }
        return all;
    }

    private static List<Refused> questions() {
        List<Refused> all = new ArrayList<>();
        for (int wrong : new int[] {-1, 60, Integer.MAX_VALUE, Integer.MIN_VALUE}) {
            all.add(new Refused(8, "place", INDEX, y -> y.place(wrong)));
            all.add(new Refused(9, "speed", INDEX, y -> y.speed(wrong)));
            all.add(new Refused(10, "told, cut", INDEX, y -> y.told(wrong, 0)));
            all.add(new Refused(10, "told, what", ARGUMENT, y -> y.told(0, wrong)));
            all.add(new Refused(11, "point, point", INDEX, y -> y.point(wrong, 0)));
            all.add(new Refused(11, "point, what", ARGUMENT, y -> y.point(0, wrong)));
            all.add(new Refused(12, "siding", INDEX, y -> y.siding(wrong, 0)));
            all.add(new Refused(13, "event, what", ARGUMENT, y -> y.event(0, wrong)));
            all.add(new Refused(14, "about", ARGUMENT, y -> y.about(wrong)));
        }
        for (int wrong : new int[] {-1, 200, Integer.MAX_VALUE, Integer.MIN_VALUE}) {
            all.add(new Refused(13, "event, i", INDEX, y -> y.event(wrong, 0)));
        }
        return all;
    }

    private static List<Refused> notNumbers() {
        List<Refused> all = new ArrayList<>();
        for (double x : new double[] {Double.NaN, Double.POSITIVE_INFINITY, Double.NEGATIVE_INFINITY}) {
            all.add(new Refused(2, "cut, " + x, ARGUMENT, y -> y.cut(1, 1, x, 0)));
            all.add(new Refused(3, "push, " + x, ARGUMENT, y -> y.push(x)));
            all.add(new Refused(4, "wish, " + x, ARGUMENT, y -> y.wish(0, x)));
            all.add(new Refused(6, "fill, " + x, ARGUMENT, y -> y.fill(0, x)));
        }
        return all;
    }

    /** Calls that two exceptions fit; the one that the face and the promise name first is due. */
    private static List<Refused> twofold() {
        List<Refused> all = new ArrayList<>();
        for (int wrong : new int[] {-1, 60, 1000, Integer.MAX_VALUE, Integer.MIN_VALUE}) {
            all.add(new Refused(4, "wish", INDEX, y -> y.wish(wrong, -1)));
            all.add(new Refused(4, "wish", INDEX, y -> y.wish(wrong, Double.NaN)));
            all.add(new Refused(6, "fill", INDEX, y -> y.fill(wrong, -1)));
            all.add(new Refused(6, "fill", INDEX, y -> y.fill(wrong, 801)));
            all.add(new Refused(10, "told", INDEX, y -> y.told(wrong, -1)));
            all.add(new Refused(10, "told", INDEX, y -> y.told(wrong, 4)));
            all.add(new Refused(11, "point", INDEX, y -> y.point(wrong, -1)));
            all.add(new Refused(11, "point", INDEX, y -> y.point(wrong, 3)));
            all.add(new Refused(12, "siding", INDEX, y -> y.siding(wrong, -1)));
        }
        for (int wrong : new int[] {-1, 200, Integer.MAX_VALUE, Integer.MIN_VALUE}) {
            all.add(new Refused(13, "event", INDEX, y -> y.event(wrong, -1)));
            all.add(new Refused(13, "event", INDEX, y -> y.event(wrong, 4)));
        }
        return all;
    }

    /** Five cuts that wait, roll and have landed, a point being turned, another stuck: something of everything. */
    private static HumpYard lively() {
        HumpYard yard = new HumpYard();
        yard.wish(0, 6);
        yard.wish(6, 3);
        yard.fill(7, 10);
        yard.cut(2, 30, 1, 7);
        yard.cut(1, 50, 0.5, 0);
        yard.cut(3, 20, 2, 5);
        yard.cut(1, 10, 2, 6);
        yard.stick(4, true);
        yard.push(3);
        yard.tick(278);
        yard.cut(4, 70, 3, 2);
        return yard;
    }

    private static HumpYard full() {
        HumpYard yard = new HumpYard();
        for (int i = 0; i < 60; i++) {
            yard.cut(1, 1 + i, 0, i % 8);
        }
        yard.push(1);
        yard.tick(100);
        return yard;
    }

    /** All that can be asked of a yard with its first cuts; what is set is asked by setting it and put back. */
    private static String seen(HumpYard yard, int cuts) {
        StringBuilder all = new StringBuilder();
        for (int what = 0; what < 7; what++) {
            all.append(yard.about(what)).append(' ');
        }
        for (int cut = 0; cut < cuts; cut++) {
            all.append(yard.place(cut)).append(' ').append(yard.speed(cut)).append(' ');
            for (int what = 0; what < 4; what++) {
                all.append(yard.told(cut, what)).append(' ');
            }
        }
        for (int point = 0; point < 7; point++) {
            boolean stuck = yard.stick(point, true);
            yard.stick(point, stuck);
            all.append(stuck).append(' ').append(yard.point(point, 0)).append(yard.point(point, 1)).append(' ');
        }
        for (int retarder = 0; retarder < 9; retarder++) {
            double wish = yard.wish(retarder, 1);
            yard.wish(retarder, wish);
            all.append(wish).append(' ');
        }
        for (int track = 0; track < 8; track++) {
            double free = yard.fill(track, 1);
            yard.fill(track, free);
            all.append(free).append(' ').append(yard.siding(track, 0)).append(' ');
        }
        double push = yard.push(1);
        yard.push(push);
        all.append(push).append(' ').append(yard.fastest());
        for (int i = 0; i < Math.min(2, yard.about(5)); i++) {
            for (int what = 0; what < 4; what++) {
                all.append(' ').append(yard.event(i, what));
            }
        }
        return all.toString();
    }

    private static void dueRefused(HumpYard yard, List<Refused> all) {
        for (Refused each : all) {
            Checks.dueThrow(each.name, each.by, () -> each.call.apply(yard));
        }
    }

    private static List<Refused> of(int promise, List<Refused> all) {
        List<Refused> its = new ArrayList<>(all);
        its.removeIf(each -> each.promise != promise);
        return its;
    }

    /** Of two yards with the same calls one is given refused ones too; what is seen then and later is the same. */
    private static void dueSame(HumpYard yard, HumpYard other, int cuts, List<Refused> all) {
        dueRefused(yard, all);
        Checks.due("at once", seen(yard, cuts), seen(other, cuts));
        Checks.due("ticks later", yard.tick(200), other.tick(200));
        Checks.due("later", seen(yard, cuts), seen(other, cuts));
    }

    private static void nothingChanges(int promise) {
        dueSame(new HumpYard(), new HumpYard(), 0, of(promise, orders()));
        dueSame(lively(), lively(), 5, of(promise, orders()));
        dueSame(lively(), lively(), 5, of(promise, questions()));
        dueSame(lively(), lively(), 5, of(promise, twofold()));
        dueSame(full(), full(), 4, of(promise, orders()));
    }

    private static void noCutMoreWhenFull() {
        List<Refused> unsupported = new ArrayList<>();
        for (int i = 0; i < 5; i++) {
            unsupported.add(new Refused(2, "a 61st cut", UNSUPPORTED, y -> y.cut(1, 1, 0, 0)));
        }
        dueSame(full(), full(), 4, unsupported);
    }

    private static void livelyIsLively() {
        HumpYard yard = lively();
        Checks.due("one waits", yard.about(1), 1);
        Checks.due("some roll", yard.about(2), 3);
        Checks.due("one has landed", yard.about(3), 1);
        Checks.due("events", yard.about(5), 3);
        Checks.due("a point is being turned", yard.point(6, 1), 2);
        Checks.due("a point is stuck", yard.stick(4, true), true);
    }

    private static void firstOfNone() {
        HumpYard none = new HumpYard();
        for (int what : Checks.outside(0, 3)) {
            Checks.dueIndex("told without cuts", () -> none.told(0, what));
            Checks.dueIndex("event without events", () -> none.event(0, what));
        }
    }

    // There are 60, and a number is wrong as well.
    private static void firstOfFull() {
        HumpYard yard = full();
        for (int wrong : Checks.outside(1, 20)) {
            Checks.dueArgument("wagons " + wrong, () -> yard.cut(wrong, 1, 0, 0));
        }
        for (int wrong : Checks.outside(1, 90)) {
            Checks.dueArgument("tons " + wrong, () -> yard.cut(1, wrong, 0, 0));
        }
        for (double wrong : Checks.outside(16)) {
            Checks.dueArgument("resistance " + wrong, () -> yard.cut(1, 1, wrong, 0));
        }
        for (int wrong : Checks.outside(0, 7)) {
            Checks.dueArgument("track " + wrong, () -> yard.cut(1, 1, 0, wrong));
        }
        Checks.dueThrow("all is right but their number", UNSUPPORTED, () -> yard.cut(20, 90, 16, 7));
    }

    public static void main(String[] args) {
        String nothing = "A call that throws changes nothing";
        String first = "of several exceptions that fit the one named first is thrown";
        Checks.sentence(2, nothing, RefusedTest::livelyIsLively);
        Checks.sentence(2, nothing, RefusedTest::noCutMoreWhenFull);
        for (int promise = 2; promise <= 14; promise++) {
            int p = promise;
            Checks.sentence(p, nothing, () -> nothingChanges(p));
        }
        for (int promise : new int[] {2, 3, 4, 6}) {
            Checks.sentence(promise, "a number is not as the call says",
                    () -> dueSame(lively(), lively(), 5, of(promise, notNumbers())));
        }
        Checks.sentence(2, first, RefusedTest::firstOfFull);
        for (int promise : new int[] {4, 6, 10, 11, 13}) {
            Checks.sentence(promise, first, () -> dueRefused(lively(), of(promise, twofold())));
        }
        Checks.sentence(10, first, RefusedTest::firstOfNone);
        Checks.sentence(13, first, RefusedTest::firstOfNone);
        Checks.end();
    }
}
