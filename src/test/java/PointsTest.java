/** Promises 7 and 11: where points are, when they are turned and busy; steps 1 and 2 of a tick. */
public final class PointsTest {
    private static final int[] LEFT = {0, 4, 3, 2, 1, 0, 0};
    private static final int[] SIDE = {0, 0, 0, 0, 0, 1, 1};

    private static int levelOf(int point) {
        return point == 0 ? 0 : point < 3 ? 1 : 2;
    }

    /** A track behind side 1 of a point. */
    private static int trackBehind1(int point) {
        return new int[] {7, 3, 7, 1, 3, 5, 7}[point];
    }

    // A point that is stuck to side 0 is told by the event of the cut that wished to go to side 1.
    private static void pointPlaces() {
        for (int point = 0; point < 7; point++) {
            int level = levelOf(point);
            Edge edge = Edge.at(Checks.pointPlace(point), 1, trackBehind1(point));
            for (int which : Edge.ALL) {
                HumpYard yard = edge.start(which);
                yard.stick(point, true);
                Checks.roll(yard, edge.rolled - 1);
                Checks.due("passed a tick before", yard.told(0, 2), level);
                int events = yard.tick(1);
                edge.dueThere(which, yard);
                boolean passes = which != Edge.BELOW;
                Checks.due("passed " + edge.name(which), yard.told(0, 2), passes ? level + 1 : level);
                Checks.due("astray " + edge.name(which), events, passes ? 1 : 0);
                yard.tick(1);
                Checks.due("passed a tick later", yard.told(0, 2), level + 1);
                Checks.due("astray once", yard.about(5), 1);
                Checks.due("astray at", yard.event(0, 2), point);
            }
        }
    }

    private static void treeOfPoints() {
        for (int point = 0; point < 7; point++) {
            for (int side = 0; side < 2; side++) {
                dueBehind(point, side, 2 * point + 1 + side);
            }
        }
        for (int track = 0; track < 8; track++) {
            HumpYard yard = Checks.lone(1, 0, track, 4, 200);
            Checks.due("track", yard.told(0, 1), track);
            Checks.due("none is astray", yard.about(5), 0);
        }
    }

    /** All tracks behind a side of a point are come to over that point, lying to that side. */
    private static void dueBehind(int point, int side, int next) {
        for (int track = 0; track < 8; track++) {
            int[] way = Checks.way(track);
            int level = levelOf(point);
            boolean over = way[level] == point;
            boolean behind = over && (level == 2 ? 7 + track == next : way[level + 1] == next);
            if (behind) {
                HumpYard yard = Checks.lone(1, 0, track, 4, 200);
                Checks.due("side of " + point + " to track " + track, yard.point(point, 0), side);
            }
        }
    }

    private static void turnedIn4Ticks() {
        for (int rolled = 0; rolled < LEFT.length; rolled++) {
            HumpYard yard = Checks.lone(1, 0, 7, 1, rolled);
            for (int point = 0; point < 7; point++) {
                boolean onWay = point == 0 || point == 2 || point == 6;
                Checks.due("ticks left after " + rolled, yard.point(point, 1), onWay ? LEFT[rolled] : 0);
                Checks.due("side after " + rolled, yard.point(point, 0), onWay ? SIDE[rolled] : 0);
            }
        }
    }

    /** A cut for track 7 at point 0, which has so many ticks left, is held since then, and let go now. */
    private static HumpYard heldAt(Edge edge, int which, int left) {
        HumpYard yard = edge.start(which);
        yard.tick(5 - left);
        yard.stick(0, true);
        Checks.roll(yard, edge.rolled - 1 - (5 - left));
        Checks.due("held with ticks left", yard.point(0, 1), left);
        return yard;
    }

    private static void itLiesAsItDid() {
        Edge edge = Edge.at(80, 1, 7);
        for (int which : Edge.ALL) {
            HumpYard turned = heldAt(edge, which, 1);
            turned.stick(0, false);
            turned.tick(1);
            edge.dueThere(which, turned);
            Checks.due("the fourth tick comes before the roll", turned.about(5), 0);
            HumpYard early = heldAt(edge, which, 2);
            early.stick(0, false);
            early.tick(1);
            Checks.due("with a tick left it lies as it did", early.about(5), which == Edge.BELOW ? 0 : 1);
            early.tick(1);
            Checks.due("and then to the other side", early.point(0, 0), 1);
            Checks.due("who passes then is not astray", early.about(5), which == Edge.BELOW ? 0 : 1);
        }
    }

    private static void dueBusy(String when, HumpYard yard, int point, int track, boolean busy) {
        for (int other = 0; other < 7; other++) {
            boolean asked = other == point;
            boolean elsewhere = Checks.way(track)[levelOf(other)] != other;
            if (asked || elsewhere) {
                Checks.due("point " + other + " busy " + when, yard.point(other, 2), asked && busy ? 1 : 0);
            }
        }
    }

    private static void busyFromItsPlaceOn() {
        for (int track = 0; track < 8; track++) {
            for (int point : Checks.way(track)) {
                Edge edge = Edge.at(Checks.pointPlace(point) - 15, 1, track);
                for (int which : Edge.ALL) {
                    dueBusy(edge.name(which), edge.yard(which), point, track, which != Edge.BELOW);
                }
            }
        }
    }

    private static void busyUpToItsRear() {
        for (int track = 0; track < 8; track++) {
            for (int point : Checks.way(track)) {
                for (int wagons : new int[] {1, 2, 20}) {
                    Edge edge = Edge.at(Checks.pointPlace(point) + 2.5 + 12.5 * wagons, wagons, track);
                    for (int which : Edge.ALL) {
                        dueBusy(edge.name(which), edge.yard(which), point, track, which != Edge.BEYOND);
                    }
                }
            }
        }
    }

    private static void busyByWhoPassedAnotherWay() {
        Edge edge = Edge.at(120, 1, 7);
        for (int which : Edge.ALL) {
            HumpYard yard = edge.start(which);
            yard.stick(0, true);
            Checks.roll(yard, edge.rolled);
            Checks.due("it went to point 1", yard.point(1, 2), 1);
            Checks.due("not to point 2, though it wished to", yard.point(2, 2), 0);
        }
    }

    private static void busyWhileItRolls() {
        HumpYard yard = Edge.at(200, 20, 0).tickBefore(Edge.ON);
        yard.fill(0, 0);
        for (int point : new int[] {0, 1, 3}) {
            Checks.due("it rolls over " + point, yard.point(point, 2), 1);
        }
        yard.tick(1);
        Checks.due("it has landed", yard.told(0, 0), 2);
        for (int point = 0; point < 7; point++) {
            Checks.due("it rolls no more over " + point, yard.point(point, 2), 0);
        }
    }

    /** At point 0 the first cut is before, on or beyond an edge; the second one, far behind, wishes another side. */
    private static HumpYard twoAtPoint0(Edge edge, int which, int secondTrack) {
        HumpYard yard = edge.start(which);
        yard.cut(1, 10, 2, secondTrack);
        Checks.roll(yard, edge.rolled - 35);
        Checks.pushOne(yard, 1);
        Checks.roll(yard, 34);
        edge.dueThere(which, yard);
        Checks.due("both roll", yard.about(2), 2);
        return yard;
    }

    private static void boundUntilItHasPassed() {
        Edge front = Edge.at(80, 1, 7);
        for (int which : Edge.ALL) {
            HumpYard yard = twoAtPoint0(front, which, 0);
            yard.tick(1);
            Checks.due("for the first", yard.point(0, 0), 1);
            Checks.due("busy, so not yet turned for the second", yard.point(0, 1), 0);
        }
        Edge rear = Edge.at(95, 1, 7);
        for (int which : Edge.ALL) {
            HumpYard yard = twoAtPoint0(rear, which, 0);
            yard.tick(1);
            Checks.due("turned for the second", yard.point(0, 1), which == Edge.BEYOND ? 4 : 0);
            yard.tick(1);
            Checks.due("turned for the second", yard.point(0, 1), which == Edge.BEYOND ? 3 : 4);
            HumpYard alike = twoAtPoint0(rear, which, 5);
            alike.tick(2);
            Checks.due("the second wishes the same side", alike.point(0, 1), 0);
        }
    }

    private static void boundIfItCouldStillCome() {
        Edge edge = Edge.at(80, 1, 7);
        for (int which : Edge.ALL) {
            HumpYard yard = edge.start(which);
            for (int point : Checks.way(7)) {
                yard.stick(point, true);
            }
            Checks.roll(yard, edge.rolled);
            edge.dueThere(which, yard);
            yard.stick(2, false);
            yard.stick(6, false);
            yard.tick(1);
            Checks.due("point 2, " + edge.name(which), yard.point(2, 1), which == Edge.BELOW ? 4 : 0);
            Checks.due("point 6, " + edge.name(which), yard.point(6, 1), which == Edge.BELOW ? 4 : 0);
            yard.tick(5);
            Checks.due("side of point 6", yard.point(6, 0), which == Edge.BELOW ? 1 : 0);
        }
    }

    // One cut after the other has landed: the second leaves all points as they lie that are not on its way.
    private static void boundIfItsTrackLiesBehind() {
        for (int first = 0; first < 8; first++) {
            for (int second = 0; second < 8; second++) {
                HumpYard yard = Checks.unbraked();
                yard.cut(1, 10, 0, first);
                yard.cut(1, 10, 0, second);
                yard.fill(first, 0);
                Checks.pushOne(yard, 4);
                yard.tick(300);
                Checks.pushOne(yard, 4);
                yard.tick(300);
                for (int point = 0; point < 7; point++) {
                    int level = levelOf(point);
                    int side = 0;
                    for (int track : new int[] {first, second}) {
                        side = Checks.way(track)[level] == point ? track >> 2 - level & 1 : side;
                    }
                    Checks.due("point " + point + " after tracks " + first + ", " + second, yard.point(point, 0), side);
                }
            }
        }
    }

    private static void waitingCutsAreNotBound() {
        HumpYard yard = Checks.unbraked();
        yard.cut(1, 10, 0, 0);
        yard.cut(1, 10, 0, 7);
        Checks.roll(yard, 10);
        Checks.due("none rolls", yard.point(0, 1) + yard.point(0, 0), 0);
        Checks.pushOne(yard, 4);
        for (int i = 0; i < 60; i++) {
            yard.tick(5);
            Checks.due("the one that rolls is for track 0", yard.point(0, 1) + yard.point(0, 0), 0);
        }
        Checks.pushOne(yard, 4);
        Checks.due("it has only come to the crest", yard.point(0, 1), 0);
        yard.tick(1);
        Checks.due("now it rolls", yard.point(0, 1), 4);
    }

    private static void theForemostIsServed() {
        HumpYard yard = Checks.lone(1, 0, 7, 4, 60);
        yard.cut(1, 10, 0, 0);
        yard.cut(1, 10, 0, 7);
        Checks.pushOne(yard, 2);
        yard.tick(50);
        Checks.pushOne(yard, 2);
        Checks.due("all roll", yard.about(2), 3);
        int[] sides = new int[3];
        for (int cut = 0; cut < 3; cut++) {
            for (int i = 0; i < 100 && yard.told(cut, 2) == 0; i++) {
                yard.tick(1);
            }
            sides[cut] = yard.point(0, 0);
        }
        Checks.due("sides as they passed", sides[0] * 100 + sides[1] * 10 + sides[2], 101);
        yard.tick(200);
        Checks.due("tracks", yard.told(0, 1) * 100 + yard.told(1, 1) * 10 + yard.told(2, 1), 707);
        Checks.due("none ran astray or was caught", yard.about(5), 0);
    }

    private static void stuckIsNotTurned() {
        for (int point : Checks.way(7)) {
            HumpYard yard = Checks.lone(1, 0, 7, 1, 0);
            yard.stick(point, true);
            yard.tick(20);
            for (int other : Checks.way(7)) {
                Checks.due("side of " + other, yard.point(other, 0), other == point ? 0 : 1);
                Checks.due("ticks left of " + other, yard.point(other, 1), 0);
            }
            yard.stick(point, false);
            Checks.due("let go it is not turned before a tick", yard.point(point, 1), 0);
            yard.tick(1);
            Checks.due("but then it is", yard.point(point, 1), 4);
        }
    }

    private static void stuckDoesNotGoOn() {
        for (int left = 4; left >= 1; left--) {
            HumpYard yard = Checks.lone(1, 0, 7, 1, 5 - left);
            for (int point : Checks.way(7)) {
                yard.stick(point, true);
            }
            yard.tick(20);
            for (int point : Checks.way(7)) {
                Checks.due("ticks left while stuck", yard.point(point, 1), left);
                Checks.due("side while stuck", yard.point(point, 0), 0);
                yard.stick(point, false);
            }
            yard.tick(left - 1 > 0 ? left - 1 : 1);
            Checks.due("ticks left when it goes on", yard.point(0, 1), left == 1 ? 0 : 1);
            Checks.due("side when it goes on", yard.point(0, 0), left == 1 ? 1 : 0);
            yard.tick(1);
            Checks.due("it has turned", yard.point(0, 0), 1);
            Checks.due("and turns no more", yard.point(0, 1), 0);
        }
    }

    private static void busyIsNotTurned() {
        Edge edge = Edge.at(65, 1, 7);
        for (int which : Edge.ALL) {
            HumpYard yard = edge.start(which);
            yard.stick(0, true);
            Checks.roll(yard, edge.rolled);
            edge.dueThere(which, yard);
            yard.stick(0, false);
            yard.tick(1);
            Checks.due("turned, " + edge.name(which), yard.point(0, 1), which == Edge.BELOW ? 4 : 0);
            Checks.due("by now it is busy", yard.point(0, 2), 1);
            yard.tick(3);
            Checks.due("a busy one goes on", yard.point(0, 1), which == Edge.BELOW ? 1 : 0);
            yard.tick(1);
            Checks.due("and turns", yard.point(0, 0), which == Edge.BELOW ? 1 : 0);
        }
    }

    // The first passes with a tick left. Let go behind it, the point has turned and is wished back at once.
    private static void turnedBackInTheSameTick() {
        Edge edge = Edge.at(95, 1, 7);
        for (int which : Edge.ALL) {
            HumpYard yard = edge.start(which);
            yard.cut(1, 10, 2, 0);
            yard.tick(4);
            yard.stick(0, true);
            Checks.roll(yard, edge.rolled - 39);
            Checks.pushOne(yard, 1);
            Checks.roll(yard, 34);
            edge.dueThere(which, yard);
            Checks.due("held with ticks left", yard.point(0, 1), 1);
            Checks.due("the first is astray", yard.told(0, 2) == 1 && yard.about(5) == 1, true);
            yard.stick(0, false);
            yard.tick(1);
            Checks.due("it has turned", yard.point(0, 0), 1);
            Checks.due("and is turned, if not busy", yard.point(0, 1), which == Edge.BEYOND ? 4 : 0);
            yard.tick(5);
            Checks.due("and lies back", yard.point(0, 0), 0);
        }
    }

    private static void pointTells() {
        HumpYard yard = Checks.lone(1, 0, 7, 1, 0);
        Checks.due("not turned yet", yard.point(2, 1), 0);
        yard.tick(3);
        Checks.due("side", yard.point(2, 0), 0);
        Checks.due("ticks left", yard.point(2, 1), 2);
        Checks.due("busy", yard.point(2, 2), 0);
        yard.tick(2);
        Checks.due("side", yard.point(2, 0), 1);
        Checks.due("ticks left", yard.point(2, 1), 0);
        HumpYard near = Edge.at(105, 1, 7).yard(Edge.ON);
        Checks.due("side", near.point(2, 0), 1);
        Checks.due("busy", near.point(2, 2), 1);
    }

    private static void noSuchThing() {
        HumpYard yard = Checks.lone(1, 0, 7, 1, 3);
        for (int point = 0; point < 7; point++) {
            int p = point;
            for (int what : Checks.outside(0, 2)) {
                Checks.dueArgument("what " + what, () -> yard.point(p, what));
            }
        }
    }

    private static void noSuchPoint() {
        HumpYard yard = Checks.lone(1, 0, 7, 1, 3);
        for (int what = 0; what < 3; what++) {
            int w = what;
            for (int point : Checks.outside(0, 6)) {
                Checks.dueIndex("point " + point, () -> yard.point(point, w));
            }
        }
    }

    private static void places() {
        Checks.sentence(7, "POINT 0 is at place 80, points 1 and 2 at 120, 3 to 6 at 160", PointsTest::pointPlaces);
        Checks.sentence(7, "side b, 0 or 1, of point p leads to point 2 p + 1 + b, of points 3 to 6 to track"
                + " 2 (p - 3) + b", PointsTest::treeOfPoints);
        Checks.sentence(11, "It is BUSY if a cut rolls through it", PointsTest::busyWhileItRolls);
        Checks.sentence(11, "one that has passed it, or not yet all points before it but only such as lead there, or"
                + " stands before it", PointsTest::busyByWhoPassedAnotherWay);
        Checks.sentence(11, "with place at least 15 less than the point's", PointsTest::busyFromItsPlaceOn);
        Checks.sentence(11, "and rear at most 2.5 more than it", PointsTest::busyUpToItsRear);
    }

    private static void turning() {
        Checks.sentence(7, "being TURNED takes 4 ticks", PointsTest::turnedIn4Ticks);
        Checks.sentence(7, "in which it lies as it did", PointsTest::itLiesAsItDid);
        Checks.sentence(7, "A cut is BOUND for it if it has not passed it", PointsTest::boundUntilItHasPassed);
        Checks.sentence(7, "could still come to it by the points that it has passed",
                PointsTest::boundIfItCouldStillCome);
        Checks.sentence(7, "and its wished track lies behind it", PointsTest::boundIfItsTrackLiesBehind);
        Checks.sentence(7, "STUCK points are not turned", PointsTest::stuckIsNotTurned);
        Checks.sentence(7, "nor go on turning", PointsTest::stuckDoesNotGoOn);
        Checks.sentence(7, "of one that is being turned and not stuck a tick is over (the fourth: it lies to the other"
                + " side)", PointsTest::turnedIn4Ticks);
        Checks.sentence(7, "one that is neither turned, stuck nor busy, is now turned", PointsTest::busyIsNotTurned);
        Checks.sentence(7, "2. Then, by their numbers, one that is neither turned",
                PointsTest::turnedBackInTheSameTick);
        Checks.sentence(7, "if the cut bound for it with the greatest place (of several the least number) wishes the"
                + " other side there", PointsTest::theForemostIsServed);
        Checks.sentence(7, "A cut that rolls has a PLACE", PointsTest::waitingCutsAreNotBound);
    }

    public static void main(String[] args) {
        places();
        turning();
        Checks.sentence(11, "0 the side to which it lies, 1 how many ticks it still turns (0 if it does not), 2 whether"
                + " it is busy (1 or 0)", PointsTest::pointTells);
        Checks.sentence(11, "there is no such thing", PointsTest::noSuchThing);
        Checks.sentence(11, "there is no such cut, point", PointsTest::noSuchPoint);
        Checks.end();
    }
}
