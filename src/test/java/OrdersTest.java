/** Promises 1 to 7: a new object and the calls that change it, each sentence up to its edge and beyond. */
public final class OrdersTest {
    // ---- promise 1

    private static void newNoCuts() {
        HumpYard yard = new HumpYard();
        for (int what = 0; what < 7; what++) {
            Checks.due("about(" + what + ")", yard.about(what), 0);
        }
        Checks.dueIndex("place(0)", () -> yard.place(0));
        Checks.dueIndex("speed(0)", () -> yard.speed(0));
        Checks.dueIndex("told(0, 0)", () -> yard.told(0, 0));
        Checks.dueIndex("event(0, 0)", () -> yard.event(0, 0));
        for (int track = 0; track < 8; track++) {
            Checks.due("siding " + track, yard.siding(track, 0), HumpYard.NONE);
        }
        Checks.due("fastest", yard.fastest(), 0.0);
        yard.push(4);
        Checks.due("events of an empty yard", yard.tick(400), 0);
        Checks.due("cuts of an empty yard", yard.about(0), 0);
    }

    private static void newPoints() {
        HumpYard yard = new HumpYard();
        for (int point = 0; point < 7; point++) {
            Checks.due("side of point " + point, yard.point(point, 0), 0);
            Checks.due("turning of point " + point, yard.point(point, 1), 0);
            Checks.due("busy point " + point, yard.point(point, 2), 0);
            Checks.due("stuck point " + point, yard.stick(point, true), false);
        }
    }

    private static void newWishes() {
        HumpYard yard = new HumpYard();
        for (int retarder = 0; retarder < 9; retarder++) {
            Checks.due("wish of " + retarder, yard.wish(retarder, 1), 2.0);
        }
        // With a push of 2 and no more grade than resistance allows it is above 2 in the retarder.
        HumpYard braked = new HumpYard();
        braked.cut(1, 10, 16, 0);
        Checks.pushOne(braked, 2);
        Checks.roll(braked, 100);
        Checks.due("in the retarder", braked.place(0) > 30 && braked.place(0) < 60, true);
        Checks.due("kept near 2", braked.speed(0) > 1.9 && braked.speed(0) < 2.2, true);
    }

    private static void newFree() {
        HumpYard yard = new HumpYard();
        for (int track = 0; track < 8; track++) {
            Checks.due("free metres of " + track, yard.fill(track, 1), 400.0);
            Edge edge = Edge.at(600, 1, track);
            Checks.due(edge.name(Edge.BELOW), edge.yard(Edge.BELOW).told(0, 0), 1);
            Checks.due(edge.name(Edge.ON), edge.yard(Edge.ON).told(0, 0), 2);
            Checks.due(edge.name(Edge.BEYOND), edge.yard(Edge.BEYOND).told(0, 0), 2);
        }
    }

    private static void newPush() {
        HumpYard yard = new HumpYard();
        yard.cut(1, 1, 0, 0);
        Checks.roll(yard, 1000);
        Checks.due("it waits", yard.told(0, 0), 0);
        Checks.due("push before", yard.push(1), 0.0);
        Checks.due("another object is new too", new HumpYard().push(0), 0.0);
    }

    // ---- promise 2

    private static void cutNumbers() {
        HumpYard yard = new HumpYard();
        for (int number = 0; number < 60; number++) {
            Checks.due("number", yard.cut(1 + number % 20, 1 + number, number / 4.0, number % 8), number);
            Checks.due("cuts", yard.about(0), number + 1);
            Checks.due("cuts that wait", yard.about(1), number + 1);
            Checks.due("state", yard.told(number, 0), 0);
        }
    }

    private static void cutWagons() {
        HumpYard yard = new HumpYard();
        for (int wagons = 1; wagons <= 20; wagons++) {
            Checks.due("wagons " + wagons, yard.cut(wagons, 1, 0, 0), wagons - 1);
        }
        for (int wagons : Checks.outside(1, 20)) {
            Checks.dueArgument("wagons " + wagons, () -> yard.cut(wagons, 1, 0, 0));
        }
        Checks.due("cuts", yard.about(0), 20);
    }

    private static void cutTons() {
        HumpYard yard = new HumpYard();
        int[] some = {1, 2, 45, 89, 90};
        for (int i = 0; i < some.length; i++) {
            Checks.due("tons " + some[i], yard.cut(20, some[i], 16, 7), i);
        }
        for (int tons : Checks.outside(1, 90)) {
            Checks.dueArgument("tons " + tons, () -> yard.cut(20, tons, 16, 7));
        }
        Checks.due("cuts", yard.about(0), some.length);
    }

    private static void cutResistance() {
        HumpYard yard = new HumpYard();
        double[] some = Checks.inside(16);
        for (int i = 0; i < some.length; i++) {
            Checks.due("resistance " + some[i], yard.cut(1, 1, some[i], 0), i);
        }
        for (double resistance : Checks.outside(16)) {
            Checks.dueArgument("resistance " + resistance, () -> yard.cut(1, 1, resistance, 0));
        }
        Checks.due("cuts", yard.about(0), some.length);
    }

    private static void cutTrack() {
        HumpYard yard = new HumpYard();
        for (int track = 0; track < 8; track++) {
            Checks.due("track " + track, yard.cut(1, 1, 0, track), track);
        }
        for (int track : Checks.outside(0, 7)) {
            Checks.dueArgument("track " + track, () -> yard.cut(1, 1, 0, track));
        }
        Checks.due("cuts", yard.about(0), 8);
    }

    private static HumpYard withCuts(int cuts) {
        HumpYard yard = Checks.unbraked();
        for (int i = 0; i < cuts; i++) {
            yard.cut(1, 10, 0, 0);
        }
        return yard;
    }

    private static void cutFull() {
        Checks.due("a 59th", withCuts(58).cut(1, 1, 0, 0), 58);
        HumpYard yard = withCuts(59);
        Checks.due("the 60th", yard.cut(1, 1, 0, 0), 59);
        dueFull("while all wait", yard);
        Checks.due("all wait", yard.about(1), 60);
        yard.fill(0, 0);
        yard.push(4);
        yard.tick(400);
        Checks.due("some roll", yard.about(2) > 0, true);
        Checks.due("some have landed", yard.about(3) > 0, true);
        dueFull("while some wait", yard);
        Checks.roll(yard, 4000);
        Checks.due("all have landed", yard.about(3), 60);
        dueFull("when none waits or rolls", yard);
    }

    private static void dueFull(String when, HumpYard yard) {
        for (int i = 0; i < 2; i++) {
            Checks.dueThrow("a 61st " + when, UnsupportedOperationException.class, () -> yard.cut(1, 1, 0, 0));
        }
        Checks.due("cuts " + when, yard.about(0), 60);
        Checks.dueIndex("no cut 60 " + when, () -> yard.place(60));
    }

    // ---- promise 3

    private static void pushBefore() {
        HumpYard yard = Checks.unbraked();
        yard.cut(1, 10, 0, 0);
        yard.cut(1, 10, 0, 0);
        Checks.due("before", yard.push(4), 0.0);
        Checks.due("before", yard.push(1.5), 4.0);
        yard.tick(1);
        Checks.due("the latest counts", yard.speed(0), 1.5);
        Checks.due("before", yard.push(3.25), 1.5);
        yard.tick(100);
        Checks.due("a cut that rolls is not pushed again", yard.told(0, 0), 1);
        Checks.due("both roll", yard.about(2), 2);
        Checks.due("before", yard.push(0), 3.25);
    }

    private static void pushRange() {
        HumpYard yard = new HumpYard();
        double before = 0;
        for (double speed : Checks.inside(4)) {
            Checks.due("push " + speed, yard.push(speed), before);
            before = speed;
        }
        for (double speed : Checks.outside(4)) {
            Checks.dueArgument("push " + speed, () -> yard.push(speed));
        }
        Checks.due("push after refused ones", yard.push(0), before);
        for (double speed : new double[] {Double.MIN_VALUE, 4}) {
            Checks.due("speed by a push of " + speed, Checks.lone(1, 0, 0, speed, 0).speed(0), speed);
        }
    }

    // ---- promise 4

    private static void wishBefore() {
        HumpYard yard = new HumpYard();
        for (int retarder = 0; retarder < 9; retarder++) {
            Checks.due("before", yard.wish(retarder, 5), 2.0);
            Checks.due("before", yard.wish(retarder, 3 + retarder), 5.0);
        }
        for (int retarder = 0; retarder < 9; retarder++) {
            Checks.due("each has its own", yard.wish(retarder, 1), 3.0 + retarder);
        }
    }

    private static void wishRetarders() {
        HumpYard yard = new HumpYard();
        Checks.due("the first", yard.wish(0, 3), 2.0);
        Checks.due("the last", yard.wish(8, 3), 2.0);
        for (int retarder : Checks.outside(0, 8)) {
            Checks.dueIndex("retarder " + retarder, () -> yard.wish(retarder, 1));
        }
    }

    private static void wishRange() {
        HumpYard yard = new HumpYard();
        for (int retarder = 0; retarder < 9; retarder++) {
            int r = retarder;
            double before = 2;
            for (double speed : Checks.inside(20)) {
                Checks.due("wish " + speed, yard.wish(r, speed), before);
                before = speed;
            }
            for (double speed : Checks.outside(20)) {
                Checks.dueArgument("wish " + speed, () -> yard.wish(r, speed));
            }
            Checks.due("wish after refused ones", yard.wish(r, 0), before);
        }
    }

    // ---- promise 5

    private static void stickBefore() {
        HumpYard yard = new HumpYard();
        for (int point = 0; point < 7; point++) {
            Checks.due("at first", yard.stick(point, true), false);
            Checks.due("stuck again", yard.stick(point, true), true);
            Checks.due("let go", yard.stick(point, false), true);
            Checks.due("let go again", yard.stick(point, false), false);
        }
        yard.stick(3, true);
        for (int point = 0; point < 7; point++) {
            Checks.due("each by itself", yard.stick(point, false), point == 3);
        }
    }

    private static void stickPoints() {
        HumpYard yard = new HumpYard();
        Checks.due("the first", yard.stick(0, true), false);
        Checks.due("the last", yard.stick(6, true), false);
        for (int point : Checks.outside(0, 6)) {
            Checks.dueIndex("point " + point, () -> yard.stick(point, true));
            Checks.dueIndex("point " + point, () -> yard.stick(point, false));
        }
    }

    // ---- promise 6

    private static void fillBefore() {
        HumpYard yard = new HumpYard();
        for (int track = 0; track < 8; track++) {
            Checks.due("before", yard.fill(track, 100), 400.0);
            Checks.due("before", yard.fill(track, 10.5 + track), 100.0);
        }
        for (int track = 0; track < 8; track++) {
            Checks.due("each has its own", yard.fill(track, 1), 10.5 + track);
        }
    }

    private static void fillTracks() {
        HumpYard yard = new HumpYard();
        Checks.due("the first", yard.fill(0, 3), 400.0);
        Checks.due("the last", yard.fill(7, 3), 400.0);
        for (int track : Checks.outside(0, 7)) {
            Checks.dueIndex("track " + track, () -> yard.fill(track, 1));
        }
    }

    private static void fillRange() {
        HumpYard yard = new HumpYard();
        for (int track = 0; track < 8; track++) {
            int t = track;
            double before = 400;
            for (double free : Checks.inside(800)) {
                Checks.due("free " + free, yard.fill(t, free), before);
                before = free;
            }
            for (double free : Checks.outside(800)) {
                Checks.dueArgument("free " + free, () -> yard.fill(t, free));
            }
            Checks.due("free after refused ones", yard.fill(t, 0), before);
        }
    }

    // ---- promise 7

    private static void tickRange() {
        HumpYard yard = new HumpYard();
        int ticks = 0;
        for (int n : new int[] {1, 2, 200, 399, 400}) {
            Checks.due("events of " + n + " ticks", yard.tick(n), 0);
            ticks += n;
            Checks.due("ticks in all", yard.about(6), ticks);
        }
        for (int n : Checks.outside(1, 400)) {
            Checks.dueArgument("ticks " + n, () -> yard.tick(n));
        }
        Checks.due("ticks after refused ones", yard.about(6), ticks);
    }

    /** One cut that runs astray at point 0 and lands later. */
    private static HumpYard astray() {
        HumpYard yard = Checks.unbraked();
        yard.stick(0, true);
        yard.cut(1, 10, 0, 7);
        yard.fill(0, 0);
        yard.push(4);
        return yard;
    }

    private static void tickEvents() {
        HumpYard once = astray();
        HumpYard oneByOne = astray();
        int events = 0;
        for (int i = 0; i < 300; i++) {
            events += oneByOne.tick(1);
        }
        Checks.due("it runs astray and lands", once.tick(300), 2);
        Checks.due("the same, one by one", events, 2);
        Checks.due("the same place", oneByOne.place(0), once.place(0));
        Checks.due("the same speed", oneByOne.speed(0), once.speed(0));
        Checks.due("only the events of these ticks", once.tick(400), 0);
    }

    // ---- the other zero of the doubles, -0.0, is 0 too

    private static void due0(String what, double got) {
        Checks.due(what + " is 0", got == 0, true);
    }

    private static void cutOfMinus0() {
        HumpYard yard = Checks.lone(1, -0.0, 0, 1, 20);
        HumpYard other = Checks.lone(1, 0, 0, 1, 20);
        Checks.due("place without resistance", yard.place(0), other.place(0));
        Checks.due("speed without resistance", yard.speed(0), other.speed(0));
    }

    private static void pushOfMinus0() {
        HumpYard yard = new HumpYard();
        yard.cut(1, 1, 0, 0);
        yard.push(-0.0);
        yard.tick(10);
        Checks.due("none rolls", yard.about(2), 0);
        due0("the push before", yard.push(1));
    }

    private static void wishOfMinus0() {
        HumpYard[] yards = new HumpYard[2];
        for (int i = 0; i < 2; i++) {
            yards[i] = Checks.lone(1, 16, 0, 1, 0);
            yards[i].wish(0, i == 0 ? 0 : -0.0);
            yards[i].tick(150);
            Checks.due("it is braked", yards[i].place(0) > 30 && yards[i].speed(0) < 1, true);
            due0("the wish before", yards[i].wish(0, 1));
        }
        Checks.due("place", yards[1].place(0), yards[0].place(0));
        Checks.due("speed", yards[1].speed(0), yards[0].speed(0));
    }

    private static void fillOfMinus0() {
        Edge edge = Edge.at(200, 1, 3);
        for (int which : Edge.ALL) {
            HumpYard yard = edge.tickBefore(which);
            yard.fill(3, -0.0);
            yard.tick(1);
            Checks.due(edge.name(which), yard.told(0, 0), which == Edge.BELOW ? 1 : 2);
            due0("what is left", yard.fill(3, 1));
        }
    }

    // ---- what the document says of all calls

    private static void all512Calls() {
        HumpYard yard = new HumpYard();
        yard.push(4);
        // They come to rest before the points, one behind the other, so that some roll and some wait to the end.
        for (int i = 0; i < 60; i++) {
            yard.cut(1, 1 + i, 16, i % 8);
        }
        yard.wish(0, 0);
        for (int i = 0; i < 448; i++) {
            yard.tick(400);
        }
        Checks.due("the 511th", yard.about(0), 60);
        Checks.due("the 512th", yard.about(6), 179200);
    }

    private static void promises1And2() {
        Checks.sentence(1, "No cuts;", OrdersTest::newNoCuts);
        Checks.sentence(1, "points lie to side 0", OrdersTest::newPoints);
        Checks.sentence(1, "wishes are 2", OrdersTest::newWishes);
        Checks.sentence(1, "all tracks have 400 free metres", OrdersTest::newFree);
        Checks.sentence(1, "no push", OrdersTest::newPush);
        Checks.sentence(2, "A cut more, which waits: its number.", OrdersTest::cutNumbers);
        Checks.sentence(2, "wagons are not 1 .. 20", OrdersTest::cutWagons);
        Checks.sentence(2, "tons not 1 .. 90", OrdersTest::cutTons);
        Checks.sentence(2, "resistance not 0 .. 16", OrdersTest::cutResistance);
        Checks.sentence(2, "resistance not 0 .. 16", OrdersTest::cutOfMinus0);
        Checks.sentence(2, "track not 0 .. 7", OrdersTest::cutTrack);
        Checks.sentence(2, "UnsupportedOperationException: there are 60.", OrdersTest::cutFull);
        Checks.sentence(2, "at most 60 in all", OrdersTest::cutFull);
    }

    private static void promises3To7() {
        Checks.sentence(3, "The speed at which cuts are pushed: the one before.", OrdersTest::pushBefore);
        Checks.sentence(3, "it is not 0 .. 4", OrdersTest::pushRange);
        Checks.sentence(3, "it is not 0 .. 4", OrdersTest::pushOfMinus0);
        Checks.sentence(4, "A retarder's wish: the one before.", OrdersTest::wishBefore);
        Checks.sentence(4, "there is no such cut, point, track, retarder", OrdersTest::wishRetarders);
        Checks.sentence(4, "it is not 0 .. 20", OrdersTest::wishRange);
        Checks.sentence(4, "it is not 0 .. 20", OrdersTest::wishOfMinus0);
        Checks.sentence(5, "A point is stuck, or not: whether it was.", OrdersTest::stickBefore);
        Checks.sentence(5, "there is no such cut, point", OrdersTest::stickPoints);
        Checks.sentence(6, "A track's free metres, measured anew: what they were.", OrdersTest::fillBefore);
        Checks.sentence(6, "there is no such cut, point, track", OrdersTest::fillTracks);
        Checks.sentence(6, "they are not 0 .. 800", OrdersTest::fillRange);
        Checks.sentence(6, "they are not 0 .. 800", OrdersTest::fillOfMinus0);
        Checks.sentence(7, "n is not 1 .. 400", OrdersTest::tickRange);
        Checks.sentence(7, "So many ticks: how many events there were.", OrdersTest::tickEvents);
        Checks.sentence(7, "An object is used for at most 512 calls after it has been made", OrdersTest::all512Calls);
    }

    public static void main(String[] args) {
        promises1And2();
        promises3To7();
        Checks.end();
    }
}
