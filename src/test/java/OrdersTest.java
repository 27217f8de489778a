/** Promises 1 to 7: a new object and the calls that change it. */
public final class OrdersTest {
    private static void promise1NewObject() {
        HumpYard yard = new HumpYard();
        for (int what = 0; what < 7; what++) {
            Checks.due("1: about(" + what + ")", yard.about(what), 0);
        }
        for (int point = 0; point < 7; point++) {
            Checks.due("1: side of point " + point, yard.point(point, 0), 0);
            Checks.due("1: turning of point " + point, yard.point(point, 1), 0);
            Checks.due("1: busy point " + point, yard.point(point, 2), 0);
            Checks.due("1: stuck point " + point, yard.stick(point, false), false);
        }
        for (int retarder = 0; retarder < 9; retarder++) {
            Checks.due("1: wish of " + retarder, yard.wish(retarder, 1), 2.0);
        }
        for (int track = 0; track < 8; track++) {
            Checks.due("1: free metres of " + track, yard.fill(track, 1), 400.0);
            Checks.due("1: siding " + track, yard.siding(track, 0), HumpYard.NONE);
        }
        Checks.due("1: push", yard.push(1), 0.0);
        Checks.due("1: fastest", yard.fastest(), 0.0);
        Checks.due("1: NONE", HumpYard.NONE, -1);
        Checks.due("1: another object is new too", new HumpYard().push(0), 0.0);
    }

    private static void promise2Cut() {
        HumpYard yard = new HumpYard();
        Checks.due("2: the least of all", yard.cut(1, 1, 0, 0), 0);
        Checks.due("2: the most of all", yard.cut(20, 90, 16, 7), 1);
        refuseCuts(yard);
        Checks.due("2: refused cuts are not there", yard.about(0), 2);
        Checks.due("2: it waits", yard.told(1, 0), 0);
        for (int number = 2; number < 60; number++) {
            Checks.due("2: number", yard.cut(2, 3, 4, 5), number);
        }
        Checks.dueThrow("2: a 61st cut", UnsupportedOperationException.class, () -> yard.cut(1, 1, 0, 0));
        refuseCuts(yard);
        Checks.due("2: cuts in all", yard.about(0), 60);
        Checks.due("2: all wait", yard.about(1), 60);
        yard.push(4);
        yard.tick(400);
        Checks.dueThrow("2: a 61st cut while others roll", UnsupportedOperationException.class,
                () -> yard.cut(1, 1, 0, 0));
    }

    private static void refuseCuts(HumpYard yard) {
        for (int wagons : new int[] {0, -1, 21, Integer.MAX_VALUE, Integer.MIN_VALUE}) {
            Checks.dueArgument("2: wagons " + wagons, () -> yard.cut(wagons, 1, 0, 0));
        }
        for (int tons : new int[] {0, -1, 91, Integer.MAX_VALUE, Integer.MIN_VALUE}) {
            Checks.dueArgument("2: tons " + tons, () -> yard.cut(1, tons, 0, 0));
        }
        for (double resistance : Checks.outside(16)) {
            Checks.dueArgument("2: resistance " + resistance, () -> yard.cut(1, 1, resistance, 0));
        }
        for (int track : new int[] {-1, 8, Integer.MAX_VALUE, Integer.MIN_VALUE}) {
            Checks.dueArgument("2: track " + track, () -> yard.cut(1, 1, 0, track));
        }
    }

    private static void promise3Push() {
        HumpYard yard = new HumpYard();
        yard.cut(1, 10, 0, 0);
        yard.cut(1, 10, 0, 0);
        yard.tick(10);
        Checks.due("3: without a push none rolls", yard.about(2), 0);
        Checks.due("3: before", yard.push(4), 0.0);
        Checks.due("3: before", yard.push(1.5), 4.0);
        for (double speed : Checks.outside(4)) {
            Checks.dueArgument("3: push " + speed, () -> yard.push(speed));
        }
        Checks.due("3: a refused push changes nothing", yard.push(1.5), 1.5);
        yard.tick(1);
        Checks.due("3: the first rolls", yard.told(0, 0), 1);
        Checks.due("3: the second waits", yard.told(1, 0), 0);
        Checks.due("3: speed of the push", yard.speed(0), 1.5);
        Checks.due("3: at the crest", yard.place(0), 0.0);
        Checks.due("3: before", yard.push(0), 1.5);
        yard.tick(200);
        Checks.due("3: the push has ended, so the second still waits", yard.told(1, 0), 0);
        Checks.due("3: before", yard.push(Double.MIN_VALUE), 0.0);
        yard.tick(1);
        Checks.due("3: even the least push is one", yard.speed(1), Double.MIN_VALUE);
    }

    private static void promise4Wish() {
        HumpYard yard = new HumpYard();
        for (int retarder = 0; retarder < 9; retarder++) {
            int r = retarder;
            Checks.due("4: before", yard.wish(r, 20), 2.0);
            Checks.due("4: before", yard.wish(r, 0), 20.0);
            Checks.due("4: before", yard.wish(r, 3 + r), 0.0);
            for (double speed : Checks.outside(20)) {
                Checks.dueArgument("4: wish " + speed, () -> yard.wish(r, speed));
            }
        }
        for (int retarder : new int[] {-1, 9, Integer.MAX_VALUE, Integer.MIN_VALUE}) {
            Checks.dueIndex("4: retarder " + retarder, () -> yard.wish(retarder, 1));
            Checks.dueIndex("4: no retarder comes before a wrong wish", () -> yard.wish(retarder, -1));
        }
        for (int retarder = 0; retarder < 9; retarder++) {
            Checks.due("4: each keeps its own", yard.wish(retarder, 1), 3.0 + retarder);
        }
    }

    private static void promise5Stick() {
        HumpYard yard = new HumpYard();
        for (int point = 0; point < 7; point++) {
            Checks.due("5: before", yard.stick(point, true), false);
            Checks.due("5: before", yard.stick(point, true), true);
            Checks.due("5: before", yard.stick(point, false), true);
            Checks.due("5: before", yard.stick(point, false), false);
        }
        for (int point : new int[] {-1, 7, Integer.MAX_VALUE, Integer.MIN_VALUE}) {
            Checks.dueIndex("5: point " + point, () -> yard.stick(point, true));
        }
        stuckIsNotTurned();
        stuckDoesNotGoOn();
    }

    private static void stuckIsNotTurned() {
        HumpYard yard = Checks.unbraked();
        yard.cut(1, 10, 0, 7);
        yard.push(4);
        yard.stick(0, true);
        yard.tick(20);
        Checks.due("5: a stuck point is not turned", yard.point(0, 1) + yard.point(0, 0), 0);
        Checks.due("5: another one is", yard.point(2, 0), 1);
        yard.stick(0, false);
        yard.tick(1);
        Checks.due("5: no longer stuck it is turned", yard.point(0, 1), 4);
    }

    private static void stuckDoesNotGoOn() {
        HumpYard yard = Checks.lone(1, 0, 7, 1, 2);
        Checks.due("5: it turns", yard.point(0, 1), 3);
        yard.stick(0, true);
        yard.tick(20);
        Checks.due("5: stuck it does not go on", yard.point(0, 1), 3);
        Checks.due("5: and lies as it did", yard.point(0, 0), 0);
        yard.stick(0, false);
        yard.tick(2);
        Checks.due("5: it goes on where it was", yard.point(0, 1), 1);
        yard.tick(1);
        Checks.due("5: it has turned", yard.point(0, 0), 1);
        Checks.due("5: and turns no more", yard.point(0, 1), 0);
    }

    private static void promise6Fill() {
        HumpYard yard = new HumpYard();
        for (int track = 0; track < 8; track++) {
            int t = track;
            Checks.due("6: before", yard.fill(t, 800), 400.0);
            Checks.due("6: before", yard.fill(t, 0), 800.0);
            Checks.due("6: before", yard.fill(t, 10.5 + t), 0.0);
            for (double free : Checks.outside(800)) {
                Checks.dueArgument("6: free " + free, () -> yard.fill(t, free));
            }
        }
        for (int track : new int[] {-1, 8, Integer.MAX_VALUE, Integer.MIN_VALUE}) {
            Checks.dueIndex("6: track " + track, () -> yard.fill(track, 1));
            Checks.dueIndex("6: no track comes before wrong metres", () -> yard.fill(track, -1));
        }
        for (int track = 0; track < 8; track++) {
            Checks.due("6: each keeps its own", yard.fill(track, 1), 10.5 + track);
        }
    }

    private static void promise7Tick() {
        HumpYard yard = new HumpYard();
        for (int n : new int[] {0, -1, 401, Integer.MAX_VALUE, Integer.MIN_VALUE}) {
            Checks.dueArgument("7: ticks " + n, () -> yard.tick(n));
        }
        Checks.due("7: refused ticks are none", yard.about(6), 0);
        Checks.due("7: an empty yard has no events", yard.tick(1), 0);
        Checks.due("7: the most", yard.tick(400), 0);
        Checks.due("7: ticks in all", yard.about(6), 401);

        HumpYard once = Checks.unbraked();
        HumpYard oneByOne = Checks.unbraked();
        int events = 0;
        for (HumpYard each : new HumpYard[] {once, oneByOne}) {
            each.stick(0, true);
            each.cut(1, 10, 0, 7);
            each.fill(0, 0);
            each.fill(1, 0);
            each.push(4);
        }
        for (int i = 0; i < 300; i++) {
            events += oneByOne.tick(1);
        }
        Checks.due("7: it runs astray and lands", once.tick(300), 2);
        Checks.due("7: the same, one by one", events, 2);
        Checks.due("7: the same speed", oneByOne.speed(0), once.speed(0));
        Checks.due("7: the events of these ticks alone", once.tick(300), 0);
    }

    public static void main(String[] args) {
        promise1NewObject();
        promise2Cut();
        promise3Push();
        promise4Wish();
        promise5Stick();
        promise6Fill();
        promise7Tick();
        Checks.end();
    }
}
