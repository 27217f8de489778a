/**
 * Promise 7, step by step: what is done in one tick, at the edges that the document names.
 * The odd numbers for pushes are those with which a cut is just at the edge after the ticks told.
 */
public final class OneTickTest {
    /** So little more or less push that a cut is just beside the edge instead of at it. */
    private static final double LITTLE = 0x1p-30;

    // Step 1 and 2.
    private static void pointsAreTurned() {
        int[] left = {0, 4, 3, 2, 1, 0};
        int[] side = {0, 0, 0, 0, 0, 1};
        for (int rolled = 0; rolled < 6; rolled++) {
            HumpYard yard = Checks.lone(1, 0, 7, 1, rolled);
            for (int point : new int[] {0, 2, 6}) {
                Checks.due("ticks left after " + rolled, yard.point(point, 1), left[rolled]);
                Checks.due("side after " + rolled, yard.point(point, 0), side[rolled]);
            }
            for (int point : new int[] {1, 3, 4, 5}) {
                Checks.due("not on its way", yard.point(point, 1) + yard.point(point, 0), 0);
            }
        }
    }

    private static void waitingCutsTurnNothing() {
        HumpYard yard = new HumpYard();
        yard.cut(1, 10, 0, 7);
        yard.tick(10);
        Checks.due("nobody rolls", yard.point(0, 1) + yard.point(0, 0), 0);
    }

    private static void everyTrackIsReached() {
        for (int track = 0; track < 8; track++) {
            HumpYard yard = Checks.lone(1, 0, track, 4, 200);
            Checks.due("track", yard.told(0, 1), track);
            Checks.due("points passed", yard.told(0, 2), 3);
            Checks.due("events", yard.about(5), 0);
            Checks.due("last point's side", yard.point(3 + track / 2, 0), track % 2);
        }
    }

    /** Two cuts that roll so far apart that points can be turned between them. */
    private static HumpYard twoApart(int firstTrack, int secondTrack) {
        HumpYard yard = Checks.lone(1, 0, firstTrack, 4, 0);
        yard.cut(1, 10, 0, secondTrack);
        yard.push(0);
        yard.tick(60);
        yard.push(4);
        yard.tick(5);
        return yard;
    }

    // The foremost cut counts: the second one's other wish must wait until the first has passed.
    private static void theForemostIsServed() {
        HumpYard yard = twoApart(7, 0);
        Checks.due("both roll", yard.about(2), 2);
        Checks.due("for the first", yard.point(0, 0), 1);
        Checks.due("not turned for the second", yard.point(0, 1), 0);
        yard.tick(60);
        Checks.due("turned back once the first is through", yard.point(0, 0), 0);
        Checks.due("the second is still before it", yard.told(1, 2), 0);
        yard.tick(200);
        Checks.due("each came to its track", yard.told(0, 1) * 10 + yard.told(1, 1), 70);
        Checks.due("none ran astray", yard.about(5), 0);
    }

    private static void busyPointsAreNotTurned() {
        HumpYard yard = Checks.lone(1, 2, 7, 3.9559616640389708, 0);
        yard.stick(0, true);
        yard.tick(83);
        Checks.due("just 15 before the point", yard.place(0), 65.0);
        yard.stick(0, false);
        yard.tick(1);
        Checks.due("busy, so not turned", yard.point(0, 1), 0);

        yard = Checks.lone(1, 2, 7, 3.9559616640389708, 0);
        yard.stick(0, true);
        yard.tick(82);
        yard.stick(0, false);
        yard.tick(1);
        Checks.due("not busy yet when it was asked", yard.point(0, 1), 4);
        yard.tick(3);
        Checks.due("busy points go on", yard.point(0, 1), 1);
        yard.tick(1);
        Checks.due("and come to lie to the other side", yard.point(0, 0), 1);
    }

    // Step 3.
    private static double grade(double place) {
        return place < 60 ? 0.046875 : place < 200 ? 0.0125 : 0.001;
    }

    private static void itRollsByTheGrade() {
        for (double resistance : new double[] {0, 2.5, 16}) {
            for (int rolled = 0; rolled < 330; rolled += 7) {
                HumpYard yard = Checks.lone(2, resistance, 5, 3, rolled);
                double place = yard.place(0);
                double speed = yard.speed(0) + 9.8125 * (grade(place) - resistance / 1024) * 0.125;
                yard.tick(1);
                Checks.due("speed from place " + place, yard.speed(0), speed);
                Checks.due("place from place " + place, yard.place(0), place + speed * 0.125);
            }
        }
    }

    private static void gradeAtItsEdges() {
        HumpYard yard = Checks.lone(1, 16, 0, 3.830717941810339, 87);
        double speed = yard.speed(0);
        Checks.due("at the edge", yard.place(0), 60.0);
        yard.tick(1);
        Checks.due("grade at 60", yard.speed(0), speed + 9.8125 * (0.0125 - 16.0 / 1024) * 0.125);

        yard = Checks.lone(1, 2, 0, 3.969029562271627, 201);
        speed = yard.speed(0);
        Checks.due("at the edge", yard.place(0), 200.0);
        yard.tick(1);
        Checks.due("grade at 200", yard.speed(0), speed + 9.8125 * (0.001 - 2.0 / 1024) * 0.125);
    }

    private static void speedIsNeverBelow0() {
        HumpYard yard = Checks.lone(1, 16, 0, 4, 0);
        yard.wish(0, 0);
        Checks.roll(yard, 1000);
        Checks.due("it does not roll back", yard.place(0) > 30 && yard.speed(0) >= 0, true);
        HumpYard stopped = Checks.lone(8, 16, 0, 0.5084812221855597, 2000);
        Checks.due("it has stopped", stopped.speed(0), 0.0);
    }

    /** What one tick makes of a cut's speed, if its retarders take these steps. */
    private static void dueSteps(String what, HumpYard yard, double resistance, int first, int second) {
        double acceleration = 9.8125 * (grade(yard.place(0)) - resistance / 1024);
        acceleration = acceleration - 0.25 * first;
        acceleration = acceleration - 0.25 * second;
        double speed = yard.speed(0) + acceleration * 0.125;
        yard.tick(1);
        Checks.due(what, yard.speed(0), speed < 0 ? 0 : speed);
    }

    private static HumpYard wished(HumpYard yard, int retarder, double under) {
        yard.wish(retarder, yard.speed(0) - under);
        return yard;
    }

    private static void retarder0() {
        double[] under = {0, 0.0625, 0.125, 0.25, 1.625, 1.75, 1.875, 3};
        int[] steps = {0, 1, 2, 3, 14, 15, 15, 15};
        for (int i = 0; i < under.length; i++) {
            // With these numbers all is in short binary fractions, so that whole steps are just whole.
            HumpYard yard = wished(Checks.lone(1, 16, 0, 3, 64), 0, under[i]);
            Checks.due("in the retarder", yard.place(0) > 30 && yard.place(0) < 62, true);
            dueSteps("above the wish by " + under[i], yard, 16, steps[i], 0);
        }
        dueAtEdge("retarder 0 begins", 30, 16, 0, 3.599637545072118, 52, 0, true);
        dueAtEdge("retarder 0 ends", 62.5, 2, 0, 3.915322122456108, 81, 0, false);
    }

    private static void dueAtEdge(String what, double edge, double resistance, int track, double push,
            int rolled, int retarder, boolean begins) {
        int first = retarder == 0 ? 15 : 0;
        HumpYard yard = Checks.lone(1, resistance, track, push, rolled);
        Checks.due(what, yard.place(0), edge);
        yard.wish(retarder, 0);
        dueSteps(what + ": at the edge it works", yard, resistance, first, 15 - first);
        yard = Checks.lone(1, resistance, track, push + (begins ? LITTLE : -LITTLE), rolled);
        yard.wish(retarder, 0);
        dueSteps(what + ": within it works", yard, resistance, first, 15 - first);
        yard = Checks.lone(1, resistance, track, push + (begins ? -LITTLE : LITTLE), rolled);
        yard.wish(retarder, 0);
        dueSteps(what + ": beside it does not", yard, resistance, 0, 0);
    }

    private static void retardersOfTracks() {
        for (int track = 0; track < 8; track++) {
            dueAtEdge("retarder begins", 210, 2, track, 3.8516336721989513, 211, 1 + track, true);
            dueAtEdge("retarder ends", 242.5, 2, track, 3.898871037607921, 237, 1 + track, false);
            HumpYard yard = Checks.lone(1, 2, track, 3.8516336721989513, 211);
            for (int retarder = 0; retarder < 9; retarder++) {
                yard.wish(retarder, retarder == 1 + track ? 20 : 0);
            }
            dueSteps("those of other tracks do not work", yard, 2, 0, 0);
        }
    }

    private static void twoRetardersAtOnce() {
        HumpYard yard = Checks.lone(20, 0.3, 6, 3.3, 240);
        Checks.due("long enough for both", yard.place(0) >= 210 && yard.place(0) - 250 <= 50, true);
        wished(yard, 0, 0.3);
        wished(yard, 7, 0.8);
        dueSteps("one after the other", yard, 0.3, 3, 7);
    }

    private static void pointsArePassed() {
        double[][] at = {
            {80, 3.9806507543190284, 97}, {120, 3.929524549797388, 134}, {160, 3.968278794061552, 168},
        };
        for (int passed = 0; passed < 3; passed++) {
            int rolled = (int) at[passed][2];
            HumpYard yard = Checks.lone(1, 2, 0, at[passed][1], rolled - 1);
            Checks.due("before the point", yard.told(0, 2), passed);
            yard.tick(1);
            Checks.due("at the point", yard.place(0), at[passed][0]);
            Checks.due("it has passed it", yard.told(0, 2), passed + 1);
            yard.tick(1);
            Checks.due("once", yard.told(0, 2), passed + 1);
        }
    }

    // Step 4. The heavy one touches the light one with its place just at that one's rear.
    private static HumpYard touching(double push, int ticks) {
        HumpYard yard = Checks.unbraked();
        yard.cut(1, 10, 16, 0);
        yard.cut(1, 30, 0, 0);
        yard.push(0.5);
        yard.tick(1);
        yard.push(push);
        yard.tick(ticks - 1);
        return yard;
    }

    private static void aTouchIsCaught() {
        double push = 3.907678222656251;
        HumpYard before = touching(push, 87);
        HumpYard yard = touching(push, 88);
        double first = before.speed(0) + 9.8125 * (0.046875 - 16.0 / 1024) * 0.125;
        double second = before.speed(1) + 9.8125 * (0.046875 - 0.0 / 1024) * 0.125;
        double common = (30 * second + 10 * first) / (30.0 + 10);
        Checks.due("not yet caught", before.told(1, 3), HumpYard.NONE);
        Checks.due("it would have come just to the rear", before.place(1) + second * 0.125, yard.place(0) - 12.5);
        Checks.due("caught by", yard.told(1, 3), 0);
        Checks.due("the one ahead is not", yard.told(0, 3), HumpYard.NONE);
        Checks.due("speed of the one behind", yard.speed(1), common);
        Checks.due("speed of the one ahead", yard.speed(0), common);
        Checks.due("an event", yard.about(5), 1);
        yard.tick(30);
        Checks.due("the same one again is no event", yard.about(5), 1);
        Checks.due("just below that push it does not touch yet", touching(Math.nextDown(push), 88).about(5), 0);
    }

    private static void whoWentAnotherWayIsNotCaught() {
        HumpYard yard = twoApart(0, 7);
        yard.wish(1, 0.5);
        yard.tick(350);
        Checks.due("they went two ways", yard.told(0, 1) * 10 + yard.told(1, 1), 7);
        Checks.due("both still roll", yard.about(2), 2);
        Checks.due("the second has overtaken", yard.place(1) > yard.place(0), true);
        Checks.due("and was not caught", yard.told(1, 3), HumpYard.NONE);

        yard = twoApart(0, 0);
        yard.wish(1, 0.5);
        yard.tick(350);
        Checks.due("on one track it is caught", yard.told(1, 3), 0);
        Checks.due("and stays behind", yard.place(1) < yard.place(0), true);
    }

    private static void thePlaceIsSetBack() {
        HumpYard yard = Checks.unbraked();
        yard.cut(3, 10, 16, 0);
        yard.cut(2, 20, 0, 0);
        yard.cut(1, 30, 0, 0);
        yard.push(2);
        yard.wish(0, 1);
        yard.tick(300);
        Checks.due("each was caught by the one ahead", yard.told(1, 3) * 10 + yard.told(2, 3), 1);
        Checks.due("place of the second", yard.place(1), yard.place(0) - 37.5);
        Checks.due("place of the third", yard.place(2), yard.place(1) - 25);
    }

    // Step 5.
    private static void landingAtTheEdge() {
        double place = Checks.lone(2, 2, 3, 3, 300).place(0);
        HumpYard yard = Checks.lone(2, 2, 3, 3, 299);
        yard.fill(3, place - 200);
        yard.tick(1);
        Checks.due("just there it lands", yard.told(0, 0), 2);
        Checks.due("its length is off", yard.fill(3, 0), place - 200 - 25);
        yard = Checks.lone(2, 2, 3, 3, 299);
        yard.fill(3, place - 200 + 0x1p-30);
        yard.tick(1);
        Checks.due("a little before it does not", yard.told(0, 0), 1);

        yard = Checks.lone(2, 2, 3, 3, 0);
        yard.fill(3, 25.5);
        yard.tick(400);
        Checks.due("what is left", yard.fill(3, 24.5), 0.5);
        yard.cut(2, 10, 2, 3);
        yard.tick(400);
        Checks.due("it is too long, so nothing is left", yard.fill(3, 1), 0.0);

        yard = Checks.lone(1, 2, 3, 3.969029562271627, 200);
        yard.fill(3, 0);
        Checks.due("not yet on the track", yard.told(0, 0), 1);
        yard.tick(1);
        Checks.due("at 200 it lands on a full track", yard.told(0, 0), 2);
        Checks.due("at 200", yard.place(0), 200.0);
        Checks.due("0 is left at least", yard.fill(3, 1), 0.0);
    }

    private static void standingAtTheEdge() {
        HumpYard yard = Checks.lone(8, 16, 2, 0.5084812221855598, 2000);
        Checks.due("rear just at 200", yard.place(0), 300.0);
        Checks.due("it stands", yard.told(0, 0), 3);
        Checks.due("nothing is free before it", yard.fill(2, 1), 0.0);
        Checks.due("that is no landing", yard.fastest(), 0.0);
        yard = Checks.lone(8, 16, 2, 0.5084812221855597, 2000);
        Checks.due("it has stopped", yard.speed(0), 0.0);
        Checks.due("rear below 200: it rolls on", yard.told(0, 0), 1);
        Checks.due("nothing is taken", yard.fill(2, 1), 400.0);
        yard.fill(2, 50);
        yard.tick(1);
        Checks.due("where it is is no longer free, so it lands", yard.told(0, 0), 2);
        yard = Checks.lone(2, 16, 2, 2, 2000);
        Checks.due("it stands", yard.told(0, 0), 3);
        Checks.due("free up to its rear", yard.fill(2, 1), yard.place(0) - 25 - 200);
    }

    // Step 6.
    private static void theNextOne() {
        HumpYard yard = Checks.lone(1, 16, 0, 3.562979862607757, 28);
        yard.cut(1, 10, 0, 0);
        yard.tick(1);
        Checks.due("rear just at 2.5", yard.place(0), 15.0);
        Checks.due("the next one rolls", yard.told(1, 0), 1);
        Checks.due("with the push", yard.speed(1), 3.562979862607757);
        yard = Checks.lone(1, 16, 0, 3.562979862607757, 27);
        yard.cut(1, 10, 0, 0);
        yard.tick(1);
        Checks.due("rear below 2.5: it waits", yard.told(1, 0), 0);
        yard = Checks.lone(20, 0, 0, 4, 100);
        yard.cut(1, 10, 0, 0);
        yard.fill(0, 0);
        while (yard.told(0, 0) == 1) {
            yard.tick(1);
        }
        Checks.due("one that rolls no more is not in the way", yard.told(1, 0), 1);
        Checks.due("though its rear is", yard.place(0) - 250 < 2.5, true);
    }

    public static void main(String[] args) {
        pointsAreTurned();
        waitingCutsTurnNothing();
        everyTrackIsReached();
        theForemostIsServed();
        busyPointsAreNotTurned();
        itRollsByTheGrade();
        gradeAtItsEdges();
        speedIsNeverBelow0();
        retarder0();
        retardersOfTracks();
        twoRetardersAtOnce();
        pointsArePassed();
        aTouchIsCaught();
        whoWentAnotherWayIsNotCaught();
        thePlaceIsSetBack();
        landingAtTheEdge();
        standingAtTheEdge();
        theNextOne();
        Checks.end();
    }
}
