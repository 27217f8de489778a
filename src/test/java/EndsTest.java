/** Promise 7: how cuts come to an end, how the next one starts, and the events; steps 5 and 6 of a tick. */
public final class EndsTest {
    // ---- step 5

    /** Cut 0 at an edge on its track, of which so much was free from the crest on. */
    private static HumpYard withFree(Edge edge, int which, double free, int ticks) {
        HumpYard yard = edge.start(which);
        yard.fill(edge.track, free);
        Checks.roll(yard, ticks);
        return yard;
    }

    private static void onATrackFrom200() {
        for (int track = 0; track < 8; track++) {
            for (int wagons : new int[] {1, 20}) {
                Edge edge = Edge.at(200, wagons, track);
                for (int which : Edge.ALL) {
                    HumpYard yard = withFree(edge, which, 0, edge.rolled - 1);
                    Checks.due("a tick before", yard.told(0, 0), 1);
                    yard.tick(1);
                    edge.dueThere(which, yard);
                    Checks.due(edge.name(which), yard.told(0, 0), which == Edge.BELOW ? 1 : 2);
                    yard.tick(1);
                    Checks.due("a tick later", yard.told(0, 0), 2);
                }
            }
        }
    }

    private static void landsAtTheEndOfFree() {
        for (double free : new double[] {0, 10, 100, 400, 800}) {
            Edge edge = Edge.at(200 + free, 1, 6);
            for (int which : Edge.ALL) {
                HumpYard yard = withFree(edge, which, free, edge.rolled);
                edge.dueThere(which, yard);
                boolean lands = which != Edge.BELOW;
                Checks.due(edge.name(which), yard.told(0, 0), lands ? 2 : 1);
                Checks.due("events", yard.about(5), lands ? 1 : 0);
                double more = free + 50 > 800 ? 800 : free + 50;
                HumpYard rolls = withFree(edge, which, more, edge.rolled - 1);
                double acceleration = 9.8125 * (Checks.grade(rolls.place(0)) - edge.resistance / 1024);
                double speed = rolls.speed(0) + acceleration * 0.125;
                Checks.due("with its speed", yard.speed(0), speed);
                Checks.due("fastest", yard.fastest(), lands ? speed : 0.0);
            }
        }
    }

    private static void measuredAnewWhileItRolls() {
        Edge edge = Edge.at(300, 1, 6);
        for (int which : Edge.ALL) {
            HumpYard yard = edge.tickBefore(which);
            yard.fill(6, 100);
            yard.tick(1);
            Checks.due(edge.name(which), yard.told(0, 0), which == Edge.BELOW ? 1 : 2);
            HumpYard other = edge.tickBefore(which);
            other.fill(7, 0);
            other.tick(1);
            Checks.due("another track is full", other.told(0, 0), 1);
        }
    }

    private static void standsFrom200() {
        for (int wagons : new int[] {8, 9, 14, 20}) {
            Edge edge = Edge.ofRest(200 + 12.5 * wagons, wagons, 2);
            for (int which : Edge.ALL) {
                HumpYard yard = edge.yard(which);
                boolean stands = which != Edge.BELOW;
                Checks.due("speed", yard.speed(0), 0.0);
                Checks.due("rear at 200, " + edge.name(which), yard.told(0, 0), stands ? 3 : 1);
                Checks.due("events", yard.about(5), stands ? 1 : 0);
                Checks.due("fastest", yard.fastest(), 0.0);
                double rear = yard.place(0) - 12.5 * wagons;
                Checks.due("free", yard.fill(2, 50), stands ? rear - 200 : 400.0);
                yard.tick(1);
                Checks.due("who rolls though at rest can still land", yard.told(0, 0), stands ? 3 : 2);
            }
        }
    }

    private static void standsWhenAtRest() {
        Edge edge = Edge.ofRest(325, 8, 4);
        for (int which : Edge.ALL) {
            HumpYard yard = edge.start(which);
            Checks.roll(yard, edge.ticksToRest(which) - 1);
            Checks.due("it still rolls", yard.speed(0) > 0 && yard.told(0, 0) == 1, true);
            Checks.due("nothing is taken yet", yard.fill(4, 400), 400.0);
            yard.tick(1);
            Checks.due("at rest it stands", yard.told(0, 0), 3);
            Checks.due("in this tick", yard.event(0, 3), edge.ticksToRest(which) + 1);
            Checks.due("free", yard.fill(4, 0), yard.place(0) - 100 - 200);
        }
    }

    // Where it comes to rest, what is free ends just behind its front, just there, or just before it. The sum
    // 200 + free is a double too: what is free may be a little more than the rest of the place and yet end there.
    private static void landingComesFirst() {
        Edge edge = Edge.ofRest(325, 8, 4);
        double[] free = {Math.nextDown(325.0) - 200, 125, Math.nextUp(125.0), Math.nextUp(325.0) - 200};
        int[] state = {2, 2, 2, 3};
        for (int i = 0; i < free.length; i++) {
            HumpYard yard = edge.start(Edge.ON);
            Checks.roll(yard, edge.ticksToRest(Edge.ON) - 1);
            Checks.due("it is there before the rest", yard.place(0), 325.0);
            yard.fill(4, free[i]);
            yard.tick(1);
            Checks.due("free " + free[i], yard.told(0, 0), state[i]);
            Checks.due("speed", yard.speed(0), 0.0);
            Checks.due("fastest", yard.fastest(), 0.0);
            Checks.due("landed", yard.about(3), state[i] == 2 ? 1 : 0);
            Checks.due("what is left", yard.fill(4, 0), state[i] == 2 ? free[i] - 100 : 25.0);
        }
    }

    private static void lengthOfTheCut() {
        for (int wagons = 1; wagons <= 20; wagons++) {
            HumpYard yard = Checks.lone(wagons, 0, 3, 4, 0);
            yard.fill(3, 300);
            Checks.roll(yard, 500);
            Checks.due("landed", yard.told(0, 0), 2);
            Checks.due("free behind " + wagons + " wagons", yard.fill(3, 0), 300 - 12.5 * wagons);
        }
    }

    private static void atLeast0IsLeft() {
        for (int wagons : new int[] {1, 2, 20}) {
            double length = 12.5 * wagons;
            double[] free = {0, length - 1, Math.nextDown(length), length, Math.nextUp(length), length + 0.5, 400};
            for (double metres : free) {
                HumpYard yard = Checks.lone(wagons, 0, 3, 4, 0);
                yard.fill(3, metres);
                Checks.roll(yard, 600);
                Checks.due("landed", yard.told(0, 0), 2);
                double left = metres <= length ? 0 : metres - length;
                Checks.due("left of " + metres + " by " + length, yard.fill(3, 1), left);
                Checks.due("other tracks", yard.fill(2, 1) + yard.fill(4, 1), 800.0);
            }
        }
    }

    private static void bothRollNoMore() {
        HumpYard landed = withFree(Edge.at(200, 1, 3), Edge.ON, 0, Edge.at(200, 1, 3).rolled);
        HumpYard standing = Edge.ofRest(325, 8, 3).yard(Edge.ON);
        for (HumpYard yard : new HumpYard[] {landed, standing}) {
            Checks.due("none rolls", yard.about(2), 0);
            double place = yard.place(0);
            double speed = yard.speed(0);
            yard.fill(3, 0);
            Checks.due("no event any more", yard.tick(400), 0);
            Checks.due("nothing is taken any more", yard.fill(3, 800), 0.0);
            Checks.due("no event any more", yard.tick(400), 0);
            Checks.due("its place", yard.place(0), place);
            Checks.due("its speed", yard.speed(0), speed);
        }
    }

    // Who touches the one ahead lands with it: what is free has become less by then.
    private static void endsByTheirNumbers() {
        HumpYard yard = Checks.unbraked();
        yard.cut(1, 10, 16, 0);
        yard.cut(1, 30, 0, 0);
        yard.push(0.5);
        yard.tick(1);
        yard.push(3.907678222656251);
        yard.fill(0, 100);
        Checks.roll(yard, 500);
        Checks.due("both have landed", yard.about(3), 2);
        Checks.due("the latest", yard.event(0, 1), 1);
        Checks.due("the one before", yard.event(1, 1), 0);
        Checks.due("in one tick", yard.event(0, 3), yard.event(1, 3));
        Checks.due("free", yard.fill(0, 0), 75.0);
    }

    // ---- step 6

    private static void crestIsClearFrom2AndAHalf() {
        for (int wagons : new int[] {1, 2, 20}) {
            Edge edge = Edge.at(2.5 + 12.5 * wagons, wagons, 0);
            for (int which : Edge.ALL) {
                HumpYard yard = edge.start(which);
                yard.cut(1, 10, 0, 0);
                yard.push(3.5);
                Checks.roll(yard, edge.rolled - 1);
                Checks.due("a tick before", yard.told(1, 0), 0);
                yard.tick(1);
                edge.dueThere(which, yard);
                Checks.due("rear at 2.5, " + edge.name(which), yard.told(1, 0), which == Edge.BELOW ? 0 : 1);
                Checks.due("place", yard.place(1), 0.0);
                Checks.due("speed", yard.speed(1), which == Edge.BELOW ? 0.0 : 3.5);
                yard.tick(1);
                Checks.due("a tick later", yard.told(1, 0), 1);
            }
        }
    }

    private static void anyThatRollsIsInTheWay() {
        // The first is far away, the second still at the crest.
        HumpYard yard = Checks.lone(1, 0, 7, 4, 100);
        yard.cut(4, 10, 0, 7);
        yard.cut(1, 10, 0, 7);
        yard.push(1);
        yard.tick(40);
        Checks.due("the second's rear is before the crest", yard.place(1) < 50, true);
        Checks.due("the third waits", yard.told(2, 0), 0);
        HumpYard ended = Edge.at(200, 20, 0).tickBefore(Edge.ON);
        ended.cut(1, 10, 0, 0);
        ended.fill(0, 0);
        ended.push(1);
        Checks.due("it waits while the long one rolls", ended.told(1, 0), 0);
        ended.tick(1);
        Checks.due("one that rolls no more is not in the way", ended.told(1, 0), 1);
    }

    private static void pushAbove0() {
        HumpYard yard = new HumpYard();
        yard.cut(1, 10, 0, 0);
        yard.cut(1, 10, 0, 0);
        yard.push(0);
        yard.tick(400);
        Checks.due("no push, none rolls", yard.about(2), 0);
        yard.push(Double.MIN_VALUE);
        Checks.due("only a tick starts it", yard.about(2), 0);
        yard.tick(1);
        Checks.due("the least push", yard.about(2), 1);
        Checks.due("its speed", yard.speed(0), Double.MIN_VALUE);
        yard.push(0);
        yard.tick(400);
        Checks.due("the push has ended", yard.told(1, 0), 0);
        Checks.due("but who rolls rolls on", yard.place(0) > 30, true);
    }

    private static void inTheOrderOfTheirNumbers() {
        HumpYard yard = Checks.unbraked();
        for (int i = 0; i < 60; i++) {
            yard.cut(1, 10, 0, i % 8);
        }
        yard.push(4);
        int rolled = 0;
        for (int i = 0; i < 130; i++) {
            yard.tick(15);
            int started = 60 - yard.about(1);
            Checks.due("one at most in so short a time", started - rolled <= 1, true);
            rolled = started;
            if (rolled < 60) {
                Checks.due("the next one waits", yard.told(rolled, 0), 0);
            }
        }
        Checks.due("all have started", rolled, 60);
        Checks.due("a push without cuts that wait", yard.tick(400) >= 0 && yard.about(1) == 0, true);
        HumpYard none = new HumpYard();
        none.push(4);
        none.tick(400);
        Checks.due("none waits, none rolls", none.about(2), 0);
        none.cut(1, 10, 0, 0);
        none.tick(1);
        Checks.due("one that came later rolls", none.told(0, 0), 1);
    }

    // ---- events

    private static void dueEvent(String what, HumpYard yard, int i, int... want) {
        for (int n = 0; n < want.length; n++) {
            Checks.due(what + ", event(" + i + ", " + n + ")", yard.event(i, n), want[n]);
        }
    }

    private static void astrayOnce() {
        for (int point : Checks.way(7)) {
            HumpYard yard = Checks.lone(1, 10, 0, 4, 0);
            yard.cut(1, 10, 2, 7);
            yard.tick(100);
            Checks.pushOne(yard, 3.9);
            yard.stick(point, true);
            yard.tick(300);
            int astray = 0;
            for (int i = 0; i < yard.about(5); i++) {
                if (yard.event(i, 0) == 0) {
                    astray++;
                    dueEvent("astray", yard, i, 0, 1, point);
                }
            }
            Checks.due("astray at " + point + " only", astray, 1);
        }
        // Behind side 0 of point 0 it could not come to track 7 any more, whatever the other points do.
        HumpYard yard = Checks.lone(1, 2, 7, 3.9, 0);
        for (int point = 0; point < 7; point++) {
            yard.stick(point, true);
        }
        yard.tick(300);
        Checks.due("astray once", yard.about(5), 1);
        dueEvent("astray", yard, 0, 0, 0, 0);
    }

    private static void kindsAndNumbers() {
        HumpYard yard = Checks.unbraked();
        yard.cut(8, 10, 16, 6);
        yard.cut(8, 10, 16, 6);
        yard.fill(6, 250);
        Checks.pushOne(yard, 1.5);
        Checks.roll(yard, 800);
        dueEvent("the first stands", yard, 0, 3, 0, 6);
        Checks.pushOne(yard, 0.25);
        Checks.roll(yard, 800);
        dueEvent("the second lands", yard, 0, 2, 1, 6);
        HumpYard caught = Checks.unbraked();
        caught.cut(1, 10, 0, 7);
        caught.cut(1, 10, 16, 0);
        caught.cut(1, 10, 0, 0);
        Checks.pushOne(caught, 4);
        caught.tick(300);
        Checks.pushOne(caught, 0.5);
        caught.tick(75);
        Checks.pushOne(caught, 4);
        caught.tick(100);
        dueEvent("caught", caught, 0, 1, 2, 1);
    }

    // In one tick the second runs astray, the third is caught and the first lands.
    private static void inTheOrderOfTheSteps() {
        HumpYard yard = Checks.unbraked();
        yard.cut(1, 10, 0, 0);
        yard.cut(1, 10, 16, 7);
        yard.cut(1, 10, 0, 7);
        yard.stick(0, true);
        Checks.pushOne(yard, 4);
        yard.tick(160);
        Checks.pushOne(yard, 1);
        yard.tick(65);
        Checks.pushOne(yard, 3);
        yard.tick(94);
        yard.fill(0, 0);
        Checks.due("nothing before", yard.about(5), 0);
        Checks.due("three in one tick", yard.tick(1), 3);
        dueEvent("step 3", yard, 2, 0, 1, 0, 323);
        dueEvent("step 4", yard, 1, 1, 2, 1, 323);
        dueEvent("step 5", yard, 0, 2, 0, 0, 323);

        HumpYard two = Checks.lone(1, 0, 5, 4, 60);
        two.cut(1, 10, 0, 2);
        Checks.pushOne(two, 4);
        two.tick(250);
        two.fill(5, 0);
        two.fill(2, 0);
        Checks.due("two in one tick", two.tick(1), 2);
        dueEvent("by their numbers, the first", two, 1, 2, 0, 5);
        dueEvent("by their numbers, the second", two, 0, 2, 1, 2);
    }

    private static void step5() {
        Checks.sentence(7, "on a track (place at least 200, all points passed)", EndsTest::onATrackFrom200);
        Checks.sentence(7, "if place is not below 200 + free, it LANDS with its speed",
                EndsTest::landsAtTheEndOfFree);
        Checks.sentence(7, "Each track has FREE metres from 200 on to what stands there",
                EndsTest::measuredAnewWhileItRolls);
        Checks.sentence(7, "its rear is at least 200, it STANDS: free becomes rear - 200", EndsTest::standsFrom200);
        Checks.sentence(7, "if its speed is 0", EndsTest::standsWhenAtRest);
        Checks.sentence(7, "it LANDS with its speed; otherwise, if its speed is 0", EndsTest::landingComesFirst);
        Checks.sentence(7, "A CUT has 1 to 20 WAGONS (its LENGTH is 12.5 times that)", EndsTest::lengthOfTheCut);
        Checks.sentence(7, "Who lands takes its length off free (at least 0 is left)", EndsTest::atLeast0IsLeft);
        Checks.sentence(7, "Both roll no more", EndsTest::bothRollNoMore);
        Checks.sentence(7, "5. Cuts that roll, by their numbers", EndsTest::endsByTheirNumbers);
    }

    private static void step6AndEvents() {
        Checks.sentence(7, "If the push is above 0 and cuts wait", EndsTest::pushAbove0);
        Checks.sentence(7, "when none rolls with a rear below 2.5", EndsTest::crestIsClearFrom2AndAHalf);
        Checks.sentence(7, "(of its front; its REAR is place less length)", EndsTest::crestIsClearFrom2AndAHalf);
        Checks.sentence(7, "when none rolls", EndsTest::anyThatRollsIsInTheWay);
        Checks.sentence(7, "the first one that waits rolls: place 0, speed the push",
                EndsTest::inTheOrderOfTheirNumbers);
        Checks.sentence(7, "cuts wait in the order of their numbers", EndsTest::inTheOrderOfTheirNumbers);
        Checks.sentence(13, "0 a cut goes to a side that does not lead to its wished track, though it could still have"
                + " come there (cut, point)", EndsTest::astrayOnce);
        Checks.sentence(13, "1 caught (cut, the one ahead); 2 lands (cut, track); 3 stands (cut, track)",
                EndsTest::kindsAndNumbers);
        Checks.sentence(13, "EVENTS, in order (within a tick 3 to 5 as told)", EndsTest::inTheOrderOfTheSteps);
    }

    public static void main(String[] args) {
        step5();
        step6AndEvents();
        Checks.end();
    }
}
