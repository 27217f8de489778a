/** Promises 8 to 15 but for 11: the calls that tell, each sentence up to its edge and beyond. */
public final class AnswersTest {
    /** Of 20 wagons, so that the next one starts only once it rolls no more: 0 has ended, 1 rolls, 2 waits. */
    private static HumpYard endedRollsWaits() {
        HumpYard yard = Checks.lone(2, 0, 4, 4, 0);
        yard.cut(20, 10, 0, 4);
        yard.cut(1, 10, 0, 4);
        yard.fill(4, 100);
        yard.push(2);
        yard.tick(300);
        Checks.due("one has landed", yard.about(3), 1);
        Checks.due("one rolls", yard.about(2), 1);
        Checks.due("one waits", yard.about(1), 1);
        return yard;
    }

    private static HumpYard standing() {
        return Edge.ofRest(325, 8, 4).yard(Edge.ON);
    }

    // ---- promises 8 and 9

    private static void placeAndSpeedAsItRolls() {
        HumpYard yard = Checks.lone(1, 16, 0, 1, 0);
        Checks.due("place at the crest", yard.place(0), 0.0);
        Checks.due("speed at the crest", yard.speed(0), 1.0);
        // 9.8125 (0.046875 - 16 / 1024) = 0.306640625
        yard.tick(1);
        Checks.due("speed after a tick", yard.speed(0), 1.038330078125);
        Checks.due("place after a tick", yard.place(0), 0.129791259765625);
        yard.tick(1);
        Checks.due("speed after two", yard.speed(0), 1.07666015625);
        Checks.due("place after two", yard.place(0), 0.264373779296875);
    }

    private static void placeAndSpeedWhileItWaits() {
        HumpYard yard = endedRollsWaits();
        Checks.due("place", yard.place(2), 0.0);
        Checks.due("speed", yard.speed(2), 0.0);
        Checks.due("the one that rolls has a place", yard.place(1) > 0, true);
        Checks.due("the one that rolls has a speed", yard.speed(1) > 0, true);
        Checks.due("with this push the next will roll", yard.push(4), 2.0);
        yard.cut(1, 10, 0, 4);
        yard.tick(1);
        Checks.due("one more waits", yard.about(1), 2);
        Checks.due("place of one that came while cuts are pushed", yard.place(3), 0.0);
        Checks.due("speed of one that came while cuts are pushed", yard.speed(3), 0.0);
    }

    private static void placeAndSpeedAtTheEnd() {
        Edge edge = Edge.at(300, 1, 4);
        HumpYard landed = edge.tickBefore(Edge.ON);
        double speed = landed.speed(0) + 9.8125 * (0.001 - edge.resistance / 1024) * 0.125;
        landed.fill(4, 0);
        landed.tick(1);
        dueEnd("landed behind what was free", landed, 0, 300, speed);
        dueEnd("standing", standing(), 0, 325, 0);
    }

    private static void dueEnd(String what, HumpYard yard, int cut, double place, double speed) {
        for (int i = 0; i < 3; i++) {
            Checks.due("place, " + what, yard.place(cut), place);
            Checks.due("speed, " + what, yard.speed(cut), speed);
            yard.tick(i == 0 ? 1 : 400);
        }
    }

    // The second touches the first when both land: its place is where it was caught, not where it rolled to.
    private static void placeWhereItWasCaught() {
        HumpYard yard = Checks.unbraked();
        yard.cut(1, 10, 16, 0);
        yard.cut(1, 30, 0, 0);
        Checks.pushOne(yard, 0.5);
        yard.push(4);
        yard.fill(0, 100);
        Checks.roll(yard, 500);
        Checks.due("both have landed", yard.about(3), 2);
        double place = yard.place(0) - 12.5;
        dueEnd("caught as it landed", yard, 1, place, yard.speed(0));
    }

    private static void noSuchCut() {
        HumpYard none = new HumpYard();
        Checks.dueIndex("place without cuts", () -> none.place(0));
        Checks.dueIndex("speed without cuts", () -> none.speed(0));
        Checks.dueIndex("told without cuts", () -> none.told(0, 0));
        HumpYard yard = endedRollsWaits();
        Checks.due("the last cut", yard.place(2), 0.0);
        dueNoCut(yard, Checks.outside(0, 2));
        HumpYard full = new HumpYard();
        for (int i = 0; i < 60; i++) {
            full.cut(1, 1, 0, 0);
        }
        Checks.due("the last cut", full.place(59) + full.speed(59) + full.told(59, 0), 0.0);
        dueNoCut(full, Checks.outside(0, 59));
    }

    private static void dueNoCut(HumpYard yard, int[] cuts) {
        for (int cut : cuts) {
            Checks.dueIndex("place of " + cut, () -> yard.place(cut));
            Checks.dueIndex("speed of " + cut, () -> yard.speed(cut));
            Checks.dueIndex("told of " + cut, () -> yard.told(cut, 0));
        }
    }

    // ---- promise 10

    private static void state() {
        HumpYard yard = endedRollsWaits();
        Checks.due("landed", yard.told(0, 0), 2);
        Checks.due("rolls", yard.told(1, 0), 1);
        Checks.due("waits", yard.told(2, 0), 0);
        Checks.due("stands", standing().told(0, 0), 3);
    }

    private static void trackThatItCameTo() {
        for (int track = 0; track < 8; track++) {
            Edge edge = Edge.at(160, 1, track);
            for (int which : Edge.ALL) {
                int came = which == Edge.BELOW ? HumpYard.NONE : track;
                Checks.due(edge.name(which), edge.yard(which).told(0, 1), came);
            }
        }
        HumpYard yard = endedRollsWaits();
        Checks.due("waits", yard.told(2, 1), HumpYard.NONE);
        Checks.due("landed", yard.told(0, 1), 4);
        Checks.due("stands", standing().told(0, 1), 4);
        HumpYard astray = Checks.lone(1, 0, 7, 4, 0);
        astray.stick(2, true);
        astray.tick(200);
        Checks.due("it came to another one than it wished", astray.told(0, 1), 4);
    }

    private static void pointsPassed() {
        double[] places = {80, 120, 160};
        for (int passed = 0; passed < 3; passed++) {
            Edge edge = Edge.at(places[passed], 1, 6);
            for (int which : Edge.ALL) {
                int now = which == Edge.BELOW ? passed : passed + 1;
                Checks.due(edge.name(which), edge.yard(which).told(0, 2), now);
            }
        }
        HumpYard yard = endedRollsWaits();
        Checks.due("waits", yard.told(2, 2), 0);
        Checks.due("landed", yard.told(0, 2), 3);
        Checks.due("stands", standing().told(0, 2), 3);
    }

    private static void caughtLatest() {
        HumpYard yard = Checks.unbraked();
        yard.cut(1, 10, 16, 0);
        yard.cut(1, 30, 0, 0);
        yard.cut(1, 30, 0, 0);
        yard.push(0.5);
        for (int i = 0; i < 100; i++) {
            Checks.due("an event for each that is caught", yard.tick(3), caught(yard));
        }
        Checks.due("none caught the first", yard.told(0, 3), HumpYard.NONE);
        Checks.due("the first caught the second", yard.told(1, 3), 0);
        Checks.due("a cut that waits", endedRollsWaits().told(2, 3), HumpYard.NONE);
    }

    private static int caughtBefore = 0;

    /** How many more were caught for the first time than when it was asked before. */
    private static int caught(HumpYard yard) {
        int now = (yard.told(1, 3) == HumpYard.NONE ? 0 : 1) + (yard.told(2, 3) == HumpYard.NONE ? 0 : 1);
        int more = now - caughtBefore;
        caughtBefore = now;
        return more;
    }

    private static void toldNoSuchThing() {
        HumpYard yard = endedRollsWaits();
        for (int cut = 0; cut < 3; cut++) {
            int c = cut;
            for (int what : Checks.outside(0, 3)) {
                Checks.dueArgument("told(" + c + ", " + what + ")", () -> yard.told(c, what));
            }
        }
    }

    // ---- promise 12

    private static void sidingInOrder() {
        HumpYard yard = Checks.unbraked();
        yard.cut(8, 10, 16, 3);
        yard.cut(1, 10, 0, 5);
        yard.cut(1, 10, 0, 3);
        Checks.pushOne(yard, 2);
        yard.fill(5, 0);
        Checks.due("none yet", yard.siding(3, 0), HumpYard.NONE);
        Checks.roll(yard, 1000);
        Checks.due("standing", yard.told(0, 0), 3);
        Checks.due("the first", yard.siding(3, 0), 0);
        Checks.due("no second yet", yard.siding(3, 1), HumpYard.NONE);
        Checks.pushOne(yard, 4);
        yard.tick(400);
        Checks.pushOne(yard, 4);
        yard.tick(400);
        Checks.due("landed", yard.told(1, 0) * 10 + yard.told(2, 0), 22);
        Checks.due("the first", yard.siding(3, 0), 0);
        Checks.due("the second", yard.siding(3, 1), 2);
        Checks.due("on another track", yard.siding(5, 0), 1);
        for (int k : Checks.outside(0, 1)) {
            Checks.due("k " + k, yard.siding(3, k), HumpYard.NONE);
        }
        for (int track : new int[] {0, 1, 2, 4, 6, 7}) {
            for (int k : new int[] {-1, 0, 1, 59, 60}) {
                Checks.due("no cut came there", yard.siding(track, k), HumpYard.NONE);
            }
        }
    }

    private static void sidingOfAll60() {
        for (int track : new int[] {0, 7}) {
            HumpYard yard = Checks.unbraked();
            for (int i = 0; i < 60; i++) {
                yard.cut(1, 10, 0, track);
            }
            yard.fill(track, 0);
            yard.push(4);
            Checks.roll(yard, 4000);
            for (int k = 0; k < 60; k++) {
                Checks.due("the k-th", yard.siding(track, k), k);
            }
            for (int k : Checks.outside(0, 59)) {
                Checks.due("k " + k, yard.siding(track, k), HumpYard.NONE);
            }
            for (int other = 0; other < 8; other++) {
                Checks.due("another track", yard.siding(other, 0), other == track ? 0 : HumpYard.NONE);
                Checks.due("another track", yard.siding(other, 59), other == track ? 59 : HumpYard.NONE);
            }
        }
    }

    private static void sidingNoSuchTrack() {
        HumpYard yard = endedRollsWaits();
        for (int track : Checks.outside(0, 7)) {
            for (int k : new int[] {-1, 0, 60}) {
                Checks.dueIndex("siding(" + track + ", " + k + ")", () -> yard.siding(track, k));
            }
        }
    }

    // ---- promise 13

    private static void dueEvent(HumpYard yard, int i, int... want) {
        for (int what = 0; what < want.length; what++) {
            Checks.due("event(" + i + ", " + what + ")", yard.event(i, what), want[what]);
        }
    }

    /** Astray at point 2, as it comes to the edge, and landed later on a track that is full. */
    private static HumpYard twoEvents(Edge edge) {
        HumpYard yard = edge.start(Edge.ON);
        yard.stick(2, true);
        Checks.roll(yard, edge.rolled);
        yard.fill(4, 0);
        Checks.roll(yard, 100);
        return yard;
    }

    private static void eventsFromTheLatest() {
        Edge edge = Edge.at(120, 1, 7);
        HumpYard yard = twoEvents(edge);
        Checks.due("events", yard.about(5), 2);
        dueEvent(yard, 1, 0, 0, 2, 1 + edge.rolled);
        dueEvent(yard, 0, 2, 0, 4);
        Checks.due("later", yard.event(0, 3) > yard.event(1, 3), true);
    }

    private static void ticksAreCountedFrom1() {
        for (int waits = 0; waits < 3; waits++) {
            HumpYard yard = Checks.unbraked();
            yard.cut(1, 10, 2, 7);
            yard.stick(0, true);
            if (waits > 0) {
                yard.tick(waits);
            }
            yard.push(4);
            int ticks = waits;
            while (yard.about(5) == 0 && ticks < 200) {
                yard.tick(1);
                ticks++;
            }
            Checks.due("the tick of the event", yard.event(0, 3), ticks);
            Checks.due("ticks in all", yard.about(6), ticks);
            yard.tick(5);
            Checks.due("the tick of the event later", yard.event(0, 3), ticks);
        }
    }

    private static void noSuchEvent() {
        HumpYard none = new HumpYard();
        for (int i : new int[] {0, -1, 1, 199, 200, Integer.MAX_VALUE, Integer.MIN_VALUE}) {
            Checks.dueIndex("of none, event " + i, () -> none.event(i, 0));
        }
        HumpYard yard = twoEvents(Edge.at(120, 1, 7));
        Checks.due("the last that there is", yard.event(1, 0), 0);
        for (int i : new int[] {-1, 2, -2, 3, 199, 200, Integer.MAX_VALUE, Integer.MIN_VALUE}) {
            Checks.dueIndex("of two, event " + i, () -> yard.event(i, 0));
        }
    }

    private static void eventNoSuchThing() {
        HumpYard yard = twoEvents(Edge.at(120, 1, 7));
        for (int i = 0; i < 2; i++) {
            int e = i;
            for (int what : Checks.outside(0, 3)) {
                Checks.dueArgument("event(" + e + ", " + what + ")", () -> yard.event(e, what));
            }
        }
    }

    /**
     * 56 of 60 cuts have run astray, caught up and come to an end, with 197 events. The others wait, and
     * each of them will run astray and land on a full track, in the ticks told by the test.
     */
    private static HumpYard crowd() {
        HumpYard yard = new HumpYard();
        yard.push(1);
        yard.wish(0, 1);
        for (int track = 0; track < 8; track++) {
            yard.wish(1 + track, 1.75);
            yard.fill(track, 800);
        }
        for (int point = 3; point < 7; point++) {
            yard.stick(point, true);
        }
        for (int i = 0; i < 60; i++) {
            yard.cut(1, 1 + i * 8 % 90, i * 5 % 4 * 0.75, i * 4 / 3 % 4 * 2 + 1);
        }
        Checks.roll(yard, 4232);
        yard.push(0);
        Checks.roll(yard, 6000);
        for (int track = 0; track < 8; track++) {
            yard.fill(track, 0);
        }
        return yard;
    }

    private static HumpYard crowdWith199() {
        HumpYard yard = crowd();
        Checks.pushOne(yard, 4);
        Checks.roll(yard, 559);
        return yard;
    }

    private static HumpYard crowdWith200() {
        HumpYard yard = crowdWith199();
        Checks.pushOne(yard, 4);
        Checks.roll(yard, 508);
        return yard;
    }

    private static HumpYard crowdWith201() {
        HumpYard yard = crowdWith200();
        Checks.roll(yard, 61);
        return yard;
    }

    private static void theLatest200AreKept() {
        HumpYard[] yards = {crowdWith199(), crowdWith200(), crowdWith201()};
        int[] oldest = {198, 199, 199};
        for (int i = 0; i < 3; i++) {
            HumpYard yard = yards[i];
            Checks.due("events", yard.about(5), 199 + i);
            Checks.due("the oldest kept is before the latest", yard.event(oldest[i], 3) < yard.event(0, 3), true);
            for (int gone : new int[] {oldest[i] + 1, 200, 201, 210, Integer.MAX_VALUE, -1}) {
                Checks.dueIndex("event " + gone + " of " + (199 + i), () -> yard.event(gone, 0));
            }
        }
        // Only now and then one more, so the first one is the oldest of 199 and of 200, the second that of 201.
        for (int what = 0; what < 4; what++) {
            int first = yards[0].event(198, what);
            int second = yards[0].event(197, what);
            Checks.due("the first of 200", yards[1].event(199, what), first);
            Checks.due("the second of 200", yards[1].event(198, what), second);
            Checks.due("the second of 201", yards[2].event(199, what), second);
        }
        dueEvent(yards[1], 0, 0, 57);
        dueEvent(yards[2], 0, 2, 57);
        dueEvent(yards[2], 1, 0, 57);
    }

    // In parts, for an object is good for 512 calls only.
    private static void allOf201AreAsTheyWere() {
        for (int from = 0; from < 198; from += 40) {
            HumpYard before = crowdWith199();
            HumpYard after = crowdWith201();
            for (int i = from; i < Math.min(from + 40, 198); i++) {
                for (int what = 0; what < 4; what++) {
                    Checks.due("event " + i + " two events later", after.event(i + 2, what), before.event(i, what));
                }
            }
        }
    }

    private static void eventsOfAllTicks() {
        HumpYard yard = crowdWith199();
        yard.push(4);
        int events = 199 + Checks.roll(yard, 2000);
        Checks.due("more than are kept", events > 200, true);
        Checks.due("events in all", yard.about(5), events);
    }

    // ---- promise 14

    private static void dueAbout(String when, HumpYard yard, int... want) {
        for (int what = 0; what < 7; what++) {
            Checks.due("about(" + what + ") " + when, yard.about(what), want[what]);
        }
    }

    private static void aboutCounts() {
        HumpYard yard = new HumpYard();
        dueAbout("of a new object", yard, 0, 0, 0, 0, 0, 0, 0);
        yard = Checks.unbraked();
        yard.cut(8, 10, 16, 4);
        yard.cut(1, 10, 0, 7);
        yard.cut(1, 10, 0, 7);
        dueAbout("all wait", yard, 3, 3, 0, 0, 0, 0, 0);
        Checks.pushOne(yard, 2);
        dueAbout("one rolls", yard, 3, 2, 1, 0, 0, 0, 1);
        Checks.roll(yard, 999);
        dueAbout("one stands", yard, 3, 2, 0, 0, 1, 1, 1000);
        yard.fill(7, 0);
        Checks.pushOne(yard, 4);
        Checks.roll(yard, 399);
        dueAbout("one has landed", yard, 3, 1, 0, 1, 1, 2, 1400);
        Checks.pushOne(yard, 4);
        dueAbout("one of each", yard, 3, 0, 1, 1, 1, 2, 1401);
        yard.cut(1, 10, 0, 0);
        dueAbout("one more", yard, 4, 1, 1, 1, 1, 2, 1401);
    }

    private static void aboutNoSuchThing() {
        for (HumpYard yard : new HumpYard[] {new HumpYard(), endedRollsWaits()}) {
            Checks.due("the last", yard.about(6) >= 0, true);
            for (int what : Checks.outside(0, 6)) {
                Checks.dueArgument("about " + what, () -> yard.about(what));
            }
        }
    }

    // ---- promise 15

    private static void fastestLanding() {
        HumpYard yard = Checks.unbraked();
        yard.fill(0, 0);
        yard.cut(1, 10, 12, 0);
        yard.cut(1, 10, 0, 0);
        yard.cut(1, 10, 8, 0);
        double before = 0;
        for (int cut = 0; cut < 3; cut++) {
            Checks.pushOne(yard, 3);
            yard.tick(150);
            Checks.due("the second rolls faster than the first landed", yard.speed(cut) > before, cut < 2);
            Checks.due("while it rolls", yard.fastest(), before);
            yard.tick(200);
            Checks.due("it has landed", yard.told(cut, 0), 2);
            before = Math.max(before, yard.speed(cut));
            Checks.due("when " + cut + " has landed", yard.fastest(), before);
        }
        Checks.due("that was the second", yard.fastest(), yard.speed(1));
    }

    private static void fastestOfNone() {
        Checks.due("of a new object", new HumpYard().fastest(), 0.0);
        Checks.due("while one rolls", Checks.lone(1, 0, 0, 4, 100).fastest(), 0.0);
        Checks.due("standing is no landing", standing().fastest(), 0.0);
        Edge edge = Edge.ofRest(325, 8, 4);
        HumpYard atRest = edge.start(Edge.ON);
        Checks.roll(atRest, edge.ticksToRest(Edge.ON) - 1);
        atRest.fill(4, 100);
        atRest.tick(1);
        Checks.due("landed at rest", atRest.told(0, 0), 2);
        Checks.due("with speed 0", atRest.fastest(), 0.0);
    }

    private static void promises8To12() {
        Checks.sentence(8, "A cut's place;", AnswersTest::placeAndSpeedAsItRolls);
        Checks.sentence(8, "0 while it waits", AnswersTest::placeAndSpeedWhileItWaits);
        Checks.sentence(8, "behind the end of its rolling where it was then", AnswersTest::placeAndSpeedAtTheEnd);
        Checks.sentence(8, "(where it was caught, landed, stands)", AnswersTest::placeWhereItWasCaught);
        Checks.sentence(8, "there is no such cut", AnswersTest::noSuchCut);
        Checks.sentence(9, "A cut's speed, likewise.", AnswersTest::placeAndSpeedAtTheEnd);
        Checks.sentence(9, "likewise", AnswersTest::placeAndSpeedWhileItWaits);
        Checks.sentence(9, "there is no such cut", AnswersTest::noSuchCut);
        Checks.sentence(10, "0 its state (0 waits, 1 rolls, 2 landed, 3 stands)", AnswersTest::state);
        Checks.sentence(10, "1 the track that it came to (NONE before all points are passed)",
                AnswersTest::trackThatItCameTo);
        Checks.sentence(10, "2 how many points it has passed", AnswersTest::pointsPassed);
        Checks.sentence(10, "3 the cut by which it was caught latest (NONE)", AnswersTest::caughtLatest);
        Checks.sentence(10, "there is no such cut", AnswersTest::noSuchCut);
        Checks.sentence(10, "there is no such thing", AnswersTest::toldNoSuchThing);
        Checks.sentence(12, "The cut that came k-th (0 is the first) to an end on a track, landed or standing",
                AnswersTest::sidingInOrder);
        Checks.sentence(12, "NONE when there is none", AnswersTest::sidingOfAll60);
        Checks.sentence(12, "there is no such track", AnswersTest::sidingNoSuchTrack);
    }

    private static void promises13To15() {
        Checks.sentence(13, "Of the event i before the latest (0 the latest): 0 what it is, 1 and 2 its numbers",
                AnswersTest::eventsFromTheLatest);
        Checks.sentence(13, "3 its tick (the first one is 1)", AnswersTest::ticksAreCountedFrom1);
        Checks.sentence(13, "it is not kept, or there is none", AnswersTest::noSuchEvent);
        Checks.sentence(13, "there is no such thing", AnswersTest::eventNoSuchThing);
        Checks.sentence(13, "The latest 200 are kept.", AnswersTest::theLatest200AreKept);
        Checks.sentence(13, "The latest 200 are kept.", AnswersTest::allOf201AreAsTheyWere);
        Checks.sentence(14, "How many: cuts (what = 0), that wait (1), roll (2), landed (3), stand (4); events in all"
                + " (5), ticks in all (6).", AnswersTest::aboutCounts);
        Checks.sentence(14, "events in all (5)", AnswersTest::eventsOfAllTicks);
        Checks.sentence(14, "there is no such thing", AnswersTest::aboutNoSuchThing);
        Checks.sentence(15, "The greatest speed at which a cut landed", AnswersTest::fastestLanding);
        Checks.sentence(15, "0 when none did", AnswersTest::fastestOfNone);
    }

    public static void main(String[] args) {
        promises8To12();
        promises13To15();
        Checks.end();
    }
}
