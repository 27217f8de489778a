/** Promises 8 to 15: the calls that tell. */
public final class AnswersTest {
    private static void promise8And9PlaceAndSpeed() {
        HumpYard yard = new HumpYard();
        Checks.dueIndex("8: place(0) without cuts", () -> yard.place(0));
        Checks.dueIndex("9: speed(0) without cuts", () -> yard.speed(0));
        yard.cut(1, 10, 16, 0);
        yard.cut(1, 10, 16, 0);
        Checks.due("8: while it waits", yard.place(0), 0.0);
        Checks.due("9: while it waits", yard.speed(0), 0.0);
        yard.push(1);
        yard.tick(1);
        Checks.due("8: at the crest", yard.place(0), 0.0);
        Checks.due("9: the push", yard.speed(0), 1.0);
        // 9.8125 (0.046875 - 16 / 1024) = 0.306640625
        yard.tick(1);
        Checks.due("9: after a tick", yard.speed(0), 1.038330078125);
        Checks.due("8: after a tick", yard.place(0), 0.129791259765625);
        yard.tick(1);
        Checks.due("9: after two", yard.speed(0), 1.07666015625);
        Checks.due("8: after two", yard.place(0), 0.264373779296875);
        Checks.due("8: the other waits", yard.place(1), 0.0);
        Checks.due("9: the other waits", yard.speed(1), 0.0);
        for (int cut : new int[] {-1, 2, 60, Integer.MAX_VALUE, Integer.MIN_VALUE}) {
            Checks.dueIndex("8: place of " + cut, () -> yard.place(cut));
            Checks.dueIndex("9: speed of " + cut, () -> yard.speed(cut));
        }
    }

    private static void afterItsEnd(HumpYard yard, int state) {
        Checks.due("10: state", yard.told(0, 0), state);
        double place = yard.place(0);
        double speed = yard.speed(0);
        yard.tick(50);
        Checks.due("8: where it was then", yard.place(0), place);
        Checks.due("9: as it was then", yard.speed(0), speed);
        Checks.due("9: a landing has a speed, standing has none", speed > 0, state == 2);
    }

    /** A cut that lands on track 4, with 100 metres free. */
    private static HumpYard landed() {
        HumpYard yard = Checks.lone(2, 0, 4, 4, 0);
        yard.fill(4, 100);
        yard.tick(400);
        return yard;
    }

    private static HumpYard standing() {
        return Checks.lone(2, 16, 4, 2, 2000);
    }

    private static void promise10Told() {
        HumpYard yard = Checks.lone(1, 0, 6, 4, 0);
        yard.cut(1, 10, 0, 6);
        dueTold("it rolls", yard, 0, 1, -1, 0, -1);
        dueTold("it waits", yard, 1, 0, -1, 0, -1);
        yard.push(0);
        yard.tick(110);
        dueTold("behind point 0", yard, 0, 1, -1, 1, -1);
        yard.tick(35);
        dueTold("behind point 2", yard, 0, 1, -1, 2, -1);
        yard.tick(40);
        dueTold("behind point 6", yard, 0, 1, 6, 3, -1);
        dueTold("it still waits", yard, 1, 0, -1, 0, -1);
        dueTold("landed", landed(), 0, 2, 4, 3, -1);
        dueTold("stands", standing(), 0, 3, 4, 3, -1);
        for (int cut : new int[] {-1, 2, 60, Integer.MAX_VALUE, Integer.MIN_VALUE}) {
            Checks.dueIndex("10: cut " + cut, () -> yard.told(cut, 0));
            Checks.dueIndex("10: no cut comes before no such thing", () -> yard.told(cut, 4));
        }
        for (int what : new int[] {-1, 4, Integer.MAX_VALUE, Integer.MIN_VALUE}) {
            Checks.dueArgument("10: what " + what, () -> yard.told(0, what));
        }
    }

    private static void dueTold(String when, HumpYard yard, int cut, int... want) {
        for (int what = 0; what < 4; what++) {
            Checks.due("10: told(" + cut + ", " + what + ") when " + when, yard.told(cut, what), want[what]);
        }
    }

    /** Pushes one cut over the crest, then none for so many ticks. */
    private static void pushOne(HumpYard yard, double speed, int ticks) {
        yard.push(speed);
        yard.tick(1);
        yard.push(0);
        yard.tick(ticks);
    }

    private static void untilPassed(HumpYard yard, int cut) {
        for (int i = 0; i < 100 && yard.told(cut, 2) == 0; i++) {
            yard.tick(1);
        }
    }

    // Point 0 is held when it has all but turned and let go between two cuts that touch: the
    // second goes another way than the one that caught it, and comes to one that went there before.
    private static void caughtByTwo() {
        HumpYard yard = Checks.unbraked();
        yard.wish(8, 0.5);
        yard.cut(1, 10, 0, 7);
        yard.cut(1, 10, 0, 0);
        yard.cut(1, 10, 16, 7);
        yard.cut(1, 10, 0, 7);
        pushOne(yard, 4, 150);
        pushOne(yard, 4, 117);
        pushOne(yard, 1, 3);
        Checks.due("10: to be turned", yard.point(0, 1), 2);
        yard.tick(1);
        yard.stick(0, true);
        yard.tick(60);
        pushOne(yard, 4, 40);
        untilPassed(yard, 2);
        dueTold("caught by the one ahead", yard, 3, 1, -1, 0, 2);
        yard.stick(0, false);
        untilPassed(yard, 3);
        dueTold("it goes another way", yard, 3, 1, -1, 1, 2);
        // The one on the track creeps by now; who comes behind it is not to be slowed down.
        yard.wish(8, 20);
        yard.tick(250);
        dueTold("caught by one on its track", yard, 3, 1, 7, 3, 0);
        Checks.due("10: who ran astray was caught by none", yard.told(2, 3), HumpYard.NONE);
        boolean first = false;
        boolean second = false;
        for (int i = yard.about(5) - 1; i >= 0; i--) {
            boolean caught = yard.event(i, 0) == 1 && yard.event(i, 1) == 3;
            first = first || caught && yard.event(i, 2) == 2;
            second = second || caught && first && yard.event(i, 2) == 0;
        }
        Checks.due("13: another one is another event", second, true);
    }

    private static void promise11Point() {
        for (int track = 0; track < 8; track++) {
            for (int rolled = 0; rolled < 260; rolled += 5) {
                dueBusy(Checks.lone(1, 2, track, 4, rolled), track);
            }
        }
        double[][] edges = {
            {65, 3.9559616640389708, 83, 0}, {95, 3.532313537597655, 116, 0},
            {105, 3.969001159667959, 120, 1}, {135, 3.9424651476801573, 147, 1},
            {145, 3.9222270867763256, 156, 3}, {175, 3.9444145581998664, 181, 3},
        };
        for (double[] edge : edges) {
            HumpYard yard = Checks.lone(1, 2, 0, edge[1], (int) edge[2]);
            Checks.due("11: at the edge", yard.place(0), edge[0]);
            Checks.due("11: busy at " + edge[0], yard.point((int) edge[3], 2), 1);
            dueBusy(Checks.lone(1, 2, 0, edge[1] - 0x1p-30, (int) edge[2]), 0);
            dueBusy(Checks.lone(1, 2, 0, edge[1] + 0x1p-30, (int) edge[2]), 0);
        }
        HumpYard yard = Checks.lone(1, 0, 7, 1, 3);
        Checks.due("11: side", yard.point(2, 0), 0);
        Checks.due("11: ticks left", yard.point(2, 1), 2);
        for (int point : new int[] {-1, 7, Integer.MAX_VALUE, Integer.MIN_VALUE}) {
            Checks.dueIndex("11: point " + point, () -> yard.point(point, 0));
            Checks.dueIndex("11: no point comes before no such thing", () -> yard.point(point, 3));
        }
        for (int what : new int[] {-1, 3, Integer.MAX_VALUE, Integer.MIN_VALUE}) {
            Checks.dueArgument("11: what " + what, () -> yard.point(0, what));
        }
        HumpYard ended = Checks.lone(20, 0, 0, 4, 0);
        ended.fill(0, 0);
        ended.tick(350);
        Checks.due("11: over the points", ended.place(0) - 250 < 80, true);
        Checks.due("11: but rolls no more", ended.point(0, 2) + ended.point(1, 2) + ended.point(3, 2), 0);
    }

    /** A lone cut of one wagon makes busy what is on its way, and nothing else. */
    private static void dueBusy(HumpYard yard, int track) {
        int[] way = {0, 1 + track / 4, 3 + track / 2};
        for (int point = 0; point < 7; point++) {
            int level = point == 0 ? 0 : point < 3 ? 1 : 2;
            double at = 80 + 40 * level;
            double place = yard.place(0);
            boolean near = place >= at - 15 && place - 12.5 <= at + 2.5;
            Checks.due("11: point " + point + " with a cut at " + place, yard.point(point, 2),
                    near && way[level] == point ? 1 : 0);
        }
    }

    private static void promise12Siding() {
        HumpYard yard = Checks.unbraked();
        yard.cut(2, 10, 16, 3);
        yard.cut(1, 10, 0, 3);
        yard.cut(1, 10, 0, 5);
        yard.push(2);
        yard.tick(1);
        yard.push(0);
        Checks.due("12: none yet", yard.siding(3, 0), HumpYard.NONE);
        Checks.roll(yard, 2000);
        Checks.due("12: standing", yard.told(0, 0), 3);
        Checks.due("12: the first", yard.siding(3, 0), 0);
        Checks.due("12: no second yet", yard.siding(3, 1), HumpYard.NONE);
        pushOne(yard, 4, 400);
        pushOne(yard, 4, 400);
        yard.tick(400);
        Checks.due("12: landed", yard.told(1, 0), 2);
        Checks.due("12: the first", yard.siding(3, 0), 0);
        Checks.due("12: the second", yard.siding(3, 1), 1);
        Checks.due("12: on another track", yard.siding(5, 0), 2);
        for (int k : new int[] {-1, 2, 59, 60, 61, Integer.MAX_VALUE, Integer.MIN_VALUE}) {
            Checks.due("12: k " + k, yard.siding(3, k), HumpYard.NONE);
            Checks.due("12: the last track's k " + k, yard.siding(7, k), HumpYard.NONE);
        }
        Checks.due("12: no cut came there", yard.siding(4, 0), HumpYard.NONE);
        for (int track : new int[] {-1, 8, Integer.MAX_VALUE, Integer.MIN_VALUE}) {
            Checks.dueIndex("12: track " + track, () -> yard.siding(track, 0));
            Checks.dueIndex("12: track " + track, () -> yard.siding(track, -1));
        }
    }

    private static void dueEvent(HumpYard yard, int i, int... want) {
        for (int what = 0; what < want.length; what++) {
            Checks.due("13: event(" + i + ", " + what + ")", yard.event(i, what), want[what]);
        }
    }

    private static void promise13Event() {
        HumpYard none = new HumpYard();
        Checks.dueIndex("13: there is none", () -> none.event(0, 0));
        Checks.dueIndex("13: none comes before no such thing", () -> none.event(0, 9));

        // Astray at point 0, and from then on nothing on its way can be astray any more.
        HumpYard yard = Checks.lone(1, 2, 7, 3.9806507543190284, 0);
        yard.stick(0, true);
        yard.stick(1, true);
        yard.tick(96);
        Checks.due("13: nothing yet", yard.about(5), 0);
        Checks.due("13: astray", yard.tick(1), 1);
        dueEvent(yard, 0, 0, 0, 0, 98);
        yard.fill(0, 0);
        yard.tick(300);
        Checks.due("13: astray once", yard.about(5), 2);
        dueEvent(yard, 0, 2, 0, 0);
        dueEvent(yard, 1, 0, 0, 0, 98);
        for (int i : new int[] {-1, 2, 199, 200, Integer.MAX_VALUE, Integer.MIN_VALUE}) {
            Checks.dueIndex("13: event " + i, () -> yard.event(i, 0));
        }
        for (int what : new int[] {-1, 4, Integer.MAX_VALUE, Integer.MIN_VALUE}) {
            Checks.dueArgument("13: what " + what, () -> yard.event(0, what));
        }
        dueEvent(landed(), 0, 2, 0, 4);
        dueEvent(standing(), 0, 3, 0, 4);
        laterPointsAstray();
    }

    private static void laterPointsAstray() {
        for (int point : new int[] {2, 6}) {
            HumpYard yard = Checks.lone(1, 2, 7, 3.9, 0);
            yard.stick(point, true);
            yard.tick(300);
            Checks.due("13: astray once", yard.about(5), 1);
            dueEvent(yard, 0, 0, 0, point);
        }
    }

    private static void eventsOfOneTick() {
        // Found by trying: a crowd in which several things happen in one tick.
        HumpYard yard = crowd();
        int last = Math.min(200, yard.about(5)) - 1;
        boolean severalInOneTick = false;
        for (int i = 0; i < Math.min(last, 110); i++) {
            int later = yard.event(i, 3);
            int sooner = yard.event(i + 1, 3);
            Checks.due("13: in the order of ticks", sooner <= later, true);
            if (sooner == later) {
                severalInOneTick = true;
                int kindSooner = Math.min(yard.event(i + 1, 0), 2);
                Checks.due("13: in the order of steps", kindSooner <= Math.min(yard.event(i, 0), 2), true);
            }
        }
        Checks.due("13: several in one tick", severalInOneTick, true);
    }

    /** 60 cuts that all run astray, catch up and come to an end: more events than are kept. */
    private static HumpYard crowd() {
        HumpYard yard = new HumpYard();
        yard.push(1);
        yard.wish(0, 1);
        for (int track = 0; track < 8; track++) {
            yard.wish(1 + track, 1.75);
            yard.fill(track, 800);
        }
        for (int point = 3; point < 7; point++) {
            yard.stick(point, true);
        }
        for (int i = 0; i < 60; i++) {
            yard.cut(1, 1 + i * 8 % 90, i * 5 % 4 * 0.75, i * 4 / 3 % 4 * 2 + 1);
        }
        Checks.roll(yard, 8000);
        return yard;
    }

    private static void theLatest200AreKept() {
        HumpYard yard = crowd();
        Checks.due("13: more than are kept", yard.about(5), 211);
        Checks.due("13: the latest, a landing", yard.event(0, 0), 2);
        Checks.due("13: the last that is kept", yard.event(199, 3) < yard.event(0, 3), true);
        Checks.dueIndex("13: no longer kept", () -> yard.event(200, 0));
        Checks.dueIndex("13: no longer kept", () -> yard.event(210, 0));
        int latest = 0;
        for (int track = 0; track < 8; track++) {
            for (int k = 0; yard.siding(track, k) != HumpYard.NONE; k++) {
                latest++;
            }
        }
        Checks.due("12: all that have ended", latest, yard.about(3) + yard.about(4));
    }

    private static void dueAbout(String when, HumpYard yard, int... want) {
        for (int what = 0; what < 7; what++) {
            Checks.due("14: about(" + what + ") " + when, yard.about(what), want[what]);
        }
    }

    private static void promise14About() {
        HumpYard yard = Checks.lone(2, 16, 4, 2, 9);
        yard.cut(1, 10, 0, 7);
        yard.cut(1, 10, 0, 7);
        dueAbout("one rolls", yard, 3, 2, 1, 0, 0, 0, 10);
        yard.push(0);
        Checks.roll(yard, 1990);
        dueAbout("one stands", yard, 3, 2, 0, 0, 1, 1, 2000);
        yard.push(4);
        yard.tick(1);
        yard.push(0);
        Checks.roll(yard, 999);
        dueAbout("one has landed", yard, 3, 1, 0, 1, 1, 2, 3000);
        for (int what : new int[] {-1, 7, Integer.MAX_VALUE, Integer.MIN_VALUE}) {
            Checks.dueArgument("14: what " + what, () -> yard.about(what));
        }
        dueAbout("after wrong ones", yard, 3, 1, 0, 1, 1, 2, 3000);
    }

    private static void promise15Fastest() {
        HumpYard yard = Checks.unbraked();
        yard.fill(0, 0);
        yard.cut(1, 10, 4, 0);
        yard.cut(1, 10, 0, 0);
        yard.cut(1, 10, 8, 0);
        double before = 0;
        for (int cut = 0; cut < 3; cut++) {
            yard.push(3);
            yard.tick(1);
            yard.push(0);
            yard.tick(150);
            Checks.due("15: while it rolls", yard.fastest(), before);
            yard.tick(200);
            Checks.due("15: it has landed", yard.told(cut, 0), 2);
            before = Math.max(before, yard.speed(cut));
            Checks.due("15: when " + cut + " has landed", yard.fastest(), before);
        }
        Checks.due("15: that was the second", yard.fastest(), yard.speed(1));
        Checks.due("15: standing is no landing", standing().fastest(), 0.0);
    }

    public static void main(String[] args) {
        promise8And9PlaceAndSpeed();
        afterItsEnd(landed(), 2);
        afterItsEnd(standing(), 3);
        promise10Told();
        caughtByTwo();
        promise11Point();
        promise12Siding();
        promise13Event();
        eventsOfOneTick();
        theLatest200AreKept();
        promise14About();
        promise15Fastest();
        Checks.end();
    }
}
