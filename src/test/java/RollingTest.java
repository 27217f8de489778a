/** Promise 7: how cuts roll, are braked, pass points and catch up; steps 3 and 4 of a tick. */
public final class RollingTest {
    // ---- the grade and the reckoning

    /** One tick of cut 0 that none catches, with a grade and with the steps of its two retarders. */
    private static double dueTick(String what, HumpYard yard, double resistance, double grade, int... steps) {
        double acceleration = 9.8125 * (grade - resistance / 1024);
        for (int each : steps) {
            acceleration = acceleration - 0.25 * each;
        }
        double speed = yard.speed(0) + acceleration * 0.125;
        speed = speed < 0 ? 0 : speed;
        double place = yard.place(0) + speed * 0.125;
        yard.tick(1);
        Checks.due("speed, " + what, yard.speed(0), speed);
        Checks.due("place, " + what, yard.place(0), place);
        return speed;
    }

    private static double dueTick(String what, HumpYard yard, double resistance, int... steps) {
        return dueTick(what, yard, resistance, Checks.grade(yard.place(0)), steps);
    }

    private static void gradeAt60() {
        for (double resistance : new double[] {0, 2, 16}) {
            Edge edge = Edge.at(60, 1, 0, resistance);
            for (int which : Edge.ALL) {
                double grade = which == Edge.BELOW ? 0.046875 : 0.0125;
                dueTick(edge.name(which), edge.yard(which), resistance, grade);
            }
        }
    }

    private static void gradeAt200() {
        for (int track = 0; track < 8; track++) {
            Edge edge = Edge.at(200, 1, track);
            for (int which : Edge.ALL) {
                double grade = which == Edge.BELOW ? 0.0125 : 0.001;
                dueTick(edge.name(which), edge.yard(which), edge.resistance, grade);
            }
        }
        Edge far = Edge.at(599, 1, 0);
        dueTick("far behind", far.yard(Edge.ON), far.resistance, 0.001);
        dueTick("at the crest", Checks.lone(1, 16, 0, 4, 0), 16, 0.046875);
    }

    private static void asWritten() {
        for (double resistance : new double[] {0, 0.1, 2.5, 7.7, 16}) {
            for (int rolled = 0; rolled < 330; rolled += 7) {
                dueTick("after " + rolled, Checks.lone(2, resistance, 5, 3, rolled), resistance);
            }
        }
    }

    // With the least push the speed is nothing but the acceleration, and its last bits tell what was reckoned first.
    private static void bracketsFirst() {
        int told = 0;
        for (int tenths = 0; tenths <= 160; tenths++) {
            double resistance = tenths * 0.1;
            HumpYard yard = Checks.lone(2, resistance, 5, Double.MIN_VALUE, 0);
            double reckoned = dueTick("resistance " + resistance, yard, resistance);
            double spread = 9.8125 * 0.046875 - 9.8125 * resistance / 1024;
            told += reckoned == Double.MIN_VALUE + spread * 0.125 ? 0 : 1;
        }
        Checks.due("it could be told", told > 0, true);
    }

    // ---- retarders

    private static int[] steps(int retarder, int steps) {
        return retarder == 0 ? new int[] {steps, 0} : new int[] {0, steps};
    }

    private static int trackOf(int retarder) {
        return retarder == 0 ? 3 : retarder - 1;
    }

    private static double beginOf(int retarder) {
        return retarder == 0 ? 30 : 210;
    }

    private static double endOf(int retarder) {
        return retarder == 0 ? 50 : 230;
    }

    private static void retarderBegins() {
        for (int retarder = 0; retarder < 9; retarder++) {
            for (int wagons : new int[] {1, 20}) {
                Edge edge = Edge.at(beginOf(retarder), wagons, trackOf(retarder));
                for (int which : Edge.ALL) {
                    HumpYard yard = edge.yard(which);
                    yard.wish(retarder, 0);
                    int works = which == Edge.BELOW ? 0 : 15;
                    dueTick("retarder " + retarder + ", " + edge.name(which), yard, edge.resistance,
                            steps(retarder, works));
                }
            }
        }
    }

    private static void retarderEnds() {
        for (int retarder = 0; retarder < 9; retarder++) {
            for (int wagons : new int[] {1, 2, 20}) {
                Edge edge = Edge.at(endOf(retarder) + 12.5 * wagons, wagons, trackOf(retarder));
                for (int which : Edge.ALL) {
                    HumpYard yard = edge.yard(which);
                    yard.wish(retarder, 0);
                    int works = which == Edge.BEYOND ? 0 : 15;
                    dueTick("retarder " + retarder + ", rear " + edge.name(which), yard, edge.resistance,
                            steps(retarder, works));
                }
            }
        }
    }

    private static void onlyTheTracksOwn() {
        for (int track = 0; track < 8; track++) {
            Edge edge = Edge.at(210, 1, track);
            for (int which : Edge.ALL) {
                HumpYard yard = edge.yard(which);
                for (int retarder = 0; retarder < 9; retarder++) {
                    yard.wish(retarder, retarder == 1 + track ? 20 : 0);
                }
                dueTick("all the others wish 0", yard, edge.resistance, 0, 0);
            }
        }
        HumpYard astray = Edge.at(210, 1, 7).start(Edge.ON);
        astray.stick(0, true);
        Checks.roll(astray, Edge.at(210, 1, 7).rolled);
        Checks.due("it came to another track than it wished", astray.told(0, 1), 0);
        astray.wish(8, 0);
        dueTick("the wished track's retarder", astray, 2, 0, 0);
        astray.wish(1, 0);
        dueTick("the retarder of the track that it is on", astray, 2, 0, 15);
    }

    private static void aboveTheWish() {
        for (int retarder = 0; retarder < 9; retarder++) {
            Edge edge = Edge.at(beginOf(retarder), 1, trackOf(retarder));
            double speed = edge.yard(Edge.ON).speed(0);
            double[] wishes = {Math.nextUp(speed), speed, Math.nextDown(speed)};
            int[] steps = {0, 0, 1};
            for (int i = 0; i < 3; i++) {
                HumpYard yard = edge.yard(Edge.ON);
                yard.wish(retarder, wishes[i]);
                dueTick("speed " + speed + ", wish " + wishes[i], yard, edge.resistance, steps(retarder, steps[i]));
            }
        }
    }

    // A speed less a whole number of eighths is a double without any rounding, so that the edges are just met.
    private static void stepsByEighths() {
        for (int retarder = 0; retarder < 9; retarder++) {
            Edge edge = Edge.at(beginOf(retarder), 1, trackOf(retarder));
            double speed = edge.yard(Edge.ON).speed(0);
            for (int eighths = 1; eighths <= 17; eighths++) {
                double wish = speed - eighths / 8.0;
                double[] wishes = {Math.nextUp(wish), wish, Math.nextDown(wish)};
                int[] steps = {eighths, eighths + 1, eighths + 1};
                for (int i = 0; i < 3; i++) {
                    HumpYard yard = edge.yard(Edge.ON);
                    yard.wish(retarder, wishes[i]);
                    dueTick("speed above the wish by " + eighths + " eighths, " + i, yard, edge.resistance,
                            steps(retarder, Math.min(steps[i], 15)));
                }
            }
        }
    }

    // With this resistance it can be told from the last bits of the speed in which order they were reckoned.
    private static void twoOneAfterTheOther() {
        double resistance = 5.300000000000001;
        int notAtOnce = 0;
        int notTurnedAbout = 0;
        for (int first = 1; first <= 15; first++) {
            for (int second = 1; second <= 15; second++) {
                HumpYard yard = Checks.lone(20, resistance, 6, 2.5, 290);
                Checks.due("in both", yard.place(0) >= 210 && yard.place(0) - 250 <= 50, true);
                double speed = yard.speed(0);
                yard.wish(0, speed - first / 8.0 + 0.0625);
                yard.wish(7, speed - second / 8.0 + 0.0625);
                double atOnce = 9.8125 * (0.001 - resistance / 1024) - 0.25 * (first + second);
                double turnedAbout = 9.8125 * (0.001 - resistance / 1024) - 0.25 * second - 0.25 * first;
                double reckoned = dueTick("steps " + first + " and " + second, yard, resistance, first, second);
                notAtOnce += reckoned == speed + atOnce * 0.125 ? 0 : 1;
                notTurnedAbout += reckoned == speed + turnedAbout * 0.125 ? 0 : 1;
            }
        }
        Checks.due("it could be told", notAtOnce > 0 && notTurnedAbout > 0, true);
    }

    // ---- speed and place

    private static void neverBelow0() {
        for (double push : new double[] {0.125, 1, 2.3}) {
            // So long that it rolls on after it has come to rest, its rear not being on the track.
            HumpYard yard = Checks.lone(20, 16, 0, push, Edge.ticksToRest(16, push) - 20);
            for (int i = 0; i < 19; i++) {
                Checks.due("it rolls", dueTick("before its rest", yard, 16) > 0, true);
            }
            Checks.due("its rest", dueTick("at its rest", yard, 16), 0.0);
            double place = yard.place(0);
            yard.tick(50);
            Checks.due("it does not roll back", yard.place(0), place);
            Checks.due("speed", yard.speed(0), 0.0);
            Checks.due("state", yard.told(0, 0), 1);
        }
    }

    // The second passes point 0 and is caught in the same tick by one whose rear is still before it. When it
    // comes over the point again that lies to the other side.
    private static void notPassedTwice() {
        HumpYard yard = Checks.unbraked();
        yard.cut(1, 10, 16, 7);
        yard.cut(1, 10, 0, 7);
        Checks.pushOne(yard, 2);
        yard.tick(4);
        yard.stick(0, true);
        yard.tick(45);
        Checks.pushOne(yard, 3.125);
        yard.tick(104);
        Checks.due("not yet passed", yard.told(1, 2), 0);
        yard.tick(1);
        Checks.due("passed", yard.told(1, 2), 1);
        Checks.due("and set back", yard.place(1) < 80 && yard.told(1, 3) == 0, true);
        yard.stick(0, false);
        yard.tick(1);
        Checks.due("over the point again", yard.place(1) > 80, true);
        Checks.due("which lies to the other side", yard.point(0, 0), 1);
        Checks.due("passed", yard.told(1, 2), 1);
        yard.tick(200);
        Checks.due("it came to a track of side 0", yard.told(1, 1) >= 0 && yard.told(1, 1) < 4, true);
        int astray = 0;
        for (int i = 0; i < yard.about(5); i++) {
            astray += yard.event(i, 0) == 0 && yard.event(i, 1) == 1 ? 1 : 0;
        }
        Checks.due("it ran astray once", astray, 1);
    }

    // ---- step 4

    /** The heavy one behind comes in the 88th tick to the light one's rear, with this push just onto it. */
    private static final double TOUCH = 3.907678222656251;

    private static HumpYard touching(double push, int ticks) {
        HumpYard yard = Checks.unbraked();
        yard.cut(1, 10, 16, 0);
        yard.cut(1, 30, 0, 0);
        yard.push(0.5);
        yard.tick(1);
        yard.push(push);
        yard.tick(ticks - 1);
        return yard;
    }

    private static void notBelowTheRear() {
        double[] pushes = {Math.nextDown(TOUCH), TOUCH, TOUCH + 0x1p-30};
        for (int which : Edge.ALL) {
            HumpYard before = touching(pushes[which], 87);
            HumpYard yard = touching(pushes[which], 88);
            double speed = before.speed(1) + 9.8125 * (0.046875 - 0.0 / 1024) * 0.125;
            double rear = yard.place(0) - 12.5;
            int side = Double.compare(before.place(1) + speed * 0.125, rear);
            Checks.due("below, on or beyond the rear", Integer.signum(side), which - 1);
            Checks.due("not caught before", before.told(1, 3), HumpYard.NONE);
            boolean caught = which != Edge.BELOW;
            Checks.due("caught by", yard.told(1, 3), caught ? 0 : HumpYard.NONE);
            Checks.due("events", yard.about(5), caught ? 1 : 0);
            Checks.due("its place", yard.place(1), caught ? rear : before.place(1) + speed * 0.125);
            Checks.due("one speed", yard.speed(0) == yard.speed(1), caught);
            Checks.due("the one ahead is not caught", yard.told(0, 3), HumpYard.NONE);
        }
    }

    private static void commonSpeed() {
        HumpYard before = touching(TOUCH, 87);
        HumpYard yard = touching(TOUCH, 88);
        double first = before.speed(0) + 9.8125 * (0.046875 - 16.0 / 1024) * 0.125;
        double second = before.speed(1) + 9.8125 * (0.046875 - 0.0 / 1024) * 0.125;
        double common = (30 * second + 10 * first) / (30.0 + 10);
        Checks.due("speed of the one behind", yard.speed(1), common);
        Checks.due("speed of the one ahead", yard.speed(0), common);
    }

    /** Four cuts of many kinds, all unbraked, one behind the other. */
    private static final int[][] WAGONS_TONS_RESISTANCE = {{3, 10, 16}, {2, 20, 4}, {1, 90, 2}, {5, 7, 0}};

    private static HumpYard row() {
        HumpYard yard = Checks.unbraked();
        for (int[] each : WAGONS_TONS_RESISTANCE) {
            yard.cut(each[0], each[1], each[2], 0);
        }
        yard.push(2);
        Checks.roll(yard, 530);
        Checks.due("all roll", yard.about(2), 4);
        return yard;
    }

    /** How many of the row are caught in one tick, all answers being as reckoned. */
    private static int dueRow(HumpYard yard) {
        double[] place = new double[4];
        double[] speed = new double[4];
        int caught = 0;
        for (int i = 0; i < 4; i++) {
            double before = yard.place(i);
            double acceleration = 9.8125 * (Checks.grade(before) - WAGONS_TONS_RESISTANCE[i][2] / 1024.0);
            speed[i] = yard.speed(i) + acceleration * 0.125;
            place[i] = before + speed[i] * 0.125;
        }
        for (int i = 1; i < 4; i++) {
            double rear = place[i - 1] - 12.5 * WAGONS_TONS_RESISTANCE[i - 1][0];
            if (place[i] >= rear) {
                double mine = WAGONS_TONS_RESISTANCE[i][0] * WAGONS_TONS_RESISTANCE[i][1];
                double its = WAGONS_TONS_RESISTANCE[i - 1][0] * WAGONS_TONS_RESISTANCE[i - 1][1];
                place[i] = rear;
                speed[i] = (mine * speed[i] + its * speed[i - 1]) / (mine + its);
                speed[i - 1] = speed[i];
                caught++;
            }
        }
        yard.tick(1);
        for (int i = 0; i < 4; i++) {
            Checks.due("place of " + i, yard.place(i), place[i]);
            Checks.due("speed of " + i, yard.speed(i), speed[i]);
        }
        return caught;
    }

    private static void byTheirNumbers() {
        HumpYard yard = row();
        int most = 0;
        for (int i = 0; i < 25; i++) {
            most = Math.max(most, dueRow(yard));
        }
        Checks.due("most caught in one tick", most, 3);
    }

    private static void anEventOnce() {
        HumpYard yard = touching(TOUCH, 88);
        Checks.due("none before, so an event", yard.about(5), 1);
        int touches = 0;
        for (int i = 0; i < 30; i++) {
            Checks.due("the same one again is no event", yard.tick(1), 0);
            touches += yard.place(1) == yard.place(0) - 12.5 ? 1 : 0;
        }
        Checks.due("caught again", touches > 5, true);
    }

    private static void untilPassed(HumpYard yard, int cut) {
        for (int i = 0; i < 100 && yard.told(cut, 2) == 0; i++) {
            yard.tick(1);
        }
    }

    // Point 0 is held when it has all but turned and let go between two cuts that touch: the
    // second goes another way than the one that caught it, and comes to one that went there before.
    private static void caughtByTwo() {
        HumpYard yard = Checks.unbraked();
        yard.wish(8, 0.5);
        yard.cut(1, 10, 0, 7);
        yard.cut(1, 10, 0, 0);
        yard.cut(1, 10, 16, 7);
        yard.cut(1, 10, 0, 7);
        Checks.pushOne(yard, 4);
        yard.tick(150);
        Checks.pushOne(yard, 4);
        yard.tick(117);
        Checks.pushOne(yard, 1);
        yard.tick(4);
        Checks.due("ticks left", yard.point(0, 1), 1);
        yard.stick(0, true);
        yard.tick(60);
        Checks.pushOne(yard, 4);
        yard.tick(40);
        untilPassed(yard, 2);
        Checks.due("caught by the one ahead", yard.told(3, 3), 2);
        yard.stick(0, false);
        untilPassed(yard, 3);
        Checks.due("it goes another way, and was caught by", yard.told(3, 3), 2);
        // The one on the track creeps by now; who comes behind it is not to be slowed down.
        yard.wish(8, 20);
        yard.tick(250);
        Checks.due("caught by one on its track", yard.told(3, 3), 0);
        Checks.due("who ran astray was caught by none", yard.told(2, 3), HumpYard.NONE);
        boolean first = false;
        boolean second = false;
        for (int i = yard.about(5) - 1; i >= 0; i--) {
            boolean caught = yard.event(i, 0) == 1 && yard.event(i, 1) == 3;
            first = first || caught && yard.event(i, 2) == 2;
            second = second || caught && first && yard.event(i, 2) == 0;
        }
        Checks.due("another one is another event", second, true);
    }

    private static HumpYard twoApart(int firstTrack, int secondTrack) {
        HumpYard yard = Checks.lone(1, 0, firstTrack, 4, 60);
        yard.cut(1, 10, 0, secondTrack);
        Checks.pushOne(yard, 4);
        yard.wish(1 + firstTrack, 0.5);
        yard.tick(350);
        Checks.due("both roll", yard.about(2), 2);
        return yard;
    }

    private static void onlyOnTheSameWay() {
        for (int first = 0; first < 8; first++) {
            for (int second = 0; second < 8; second++) {
                HumpYard yard = twoApart(first, second);
                Checks.due("tracks", yard.told(0, 1) * 10 + yard.told(1, 1), first * 10 + second);
                Checks.due("caught by", yard.told(1, 3), first == second ? 0 : HumpYard.NONE);
                Checks.due("overtaken", yard.place(1) > yard.place(0), first != second);
            }
        }
    }

    private static void onlyWhoRolls() {
        HumpYard landed = Edge.at(200, 20, 0).tickBefore(Edge.ON);
        landed.cut(1, 10, 0, 0);
        landed.fill(0, 0);
        landed.tick(1);
        Checks.due("landed with its rear before the crest", landed.told(0, 0), 2);
        landed.push(4);
        Checks.due("only the landing of the other", Checks.roll(landed, 400), 1);
        Checks.due("not caught", landed.told(1, 3), HumpYard.NONE);

        HumpYard standing = Edge.ofRest(300, 8, 0).yard(Edge.BEYOND);
        standing.cut(1, 10, 0, 0);
        Checks.due("stands", standing.told(0, 0), 3);
        standing.push(4);
        standing.tick(400);
        Checks.due("lands behind it", standing.told(1, 0), 2);
        Checks.due("not caught", standing.told(1, 3), HumpYard.NONE);
    }

    // The first has passed point 0 and rests with its rear before it, the second went to the other side. The third
    // has come beyond the first one's rear, but not to the point: only while the second rolls is that its one ahead.
    private static HumpYard threeAtPoint0() {
        HumpYard yard = Checks.unbraked();
        yard.cut(1, 90, 16, 7);
        yard.cut(1, 1, 0, 7);
        yard.cut(1, 1, 16, 7);
        yard.wish(0, 1.41);
        Checks.pushOne(yard, 1);
        yard.tick(4);
        yard.stick(0, true);
        Checks.roll(yard, 601);
        yard.stick(0, false);
        yard.wish(0, 20);
        yard.wish(8, 0.5);
        Checks.pushOne(yard, 4);
        yard.tick(96);
        yard.wish(0, 1.2);
        yard.tick(50);
        Checks.pushOne(yard, 1);
        Checks.roll(yard, 452);
        double rear = yard.place(0) - 12.5;
        Checks.due("the first rests over the point", yard.speed(0) == 0 && yard.told(0, 2) == 1 && rear < 80, true);
        Checks.due("all roll", yard.about(2), 3);
        Checks.due("the second is on its track", yard.told(1, 1), 7);
        Checks.due("the third is beyond the rear", yard.place(2) > rear && yard.told(2, 2) == 0, true);
        return yard;
    }

    private static void aheadWhenTheNearerOneLands() {
        HumpYard rolls = threeAtPoint0();
        rolls.tick(2);
        Checks.due("while the second rolls", rolls.told(2, 3), HumpYard.NONE);
        HumpYard yard = threeAtPoint0();
        double rear = yard.place(0) - 12.5;
        yard.fill(7, 0);
        yard.tick(1);
        Checks.due("the second lands behind step 4", yard.told(1, 0), 2);
        Checks.due("so the third is not yet caught", yard.told(2, 3), HumpYard.NONE);
        double before = yard.place(2);
        yard.tick(1);
        Checks.due("then it is, by the first", yard.told(2, 3), 0);
        Checks.due("and set back to a rear", yard.place(2), rear);
        Checks.due("that is behind where it was", yard.place(2) < before, true);
    }

    private static void step3() {
        Checks.sentence(7, "The GRADE is 0.046875 below place 60", RollingTest::gradeAt60);
        Checks.sentence(7, "0.0125 below 200, and 0.001 behind", RollingTest::gradeAt200);
        Checks.sentence(7, "all reckoned as written, from the left, operations of one rank in their order",
                RollingTest::asWritten);
        Checks.sentence(7, "its acceleration is 9.8125 (grade - resistance / 1024), grade at its place",
                RollingTest::bracketsFirst);
        Checks.sentence(7, "RETARDER 0 lies from 30 to 50, retarder 1 + t on track t from 210 to 230",
                RollingTest::retarderBegins);
        Checks.sentence(7, "A RETARDER works on a cut if place is at least its beginning",
                RollingTest::retarderBegins);
        Checks.sentence(7, "rear at most its end", RollingTest::retarderEnds);
        Checks.sentence(7, "(of a track's: if the cut is on that track)", RollingTest::onlyTheTracksOwn);
        Checks.sentence(7, "and speed is above its WISH", RollingTest::aboveTheWish);
        Checks.sentence(7, "with as many STEPS as (speed - wish) 8, cut to a whole number, and 1 more, at most 15",
                RollingTest::stepsByEighths);
        Checks.sentence(7, "less 0.25 steps for a retarder that works on it (of 0 and its track's one after the"
                + " other)", RollingTest::twoOneAfterTheOther);
        Checks.sentence(7, "Its speed becomes speed + acceleration 0.125, 0 if that is below 0",
                RollingTest::neverBelow0);
        Checks.sentence(7, "its place becomes place + speed 0.125 (with the new speed)", RollingTest::asWritten);
        Checks.sentence(7, "At each point on its way that it has not passed, with place before it below and now not"
                + " below the point's, it goes to the side to which that lies", RollingTest::notPassedTwice);
    }

    private static void step4() {
        Checks.sentence(7, "of those that roll with lesser numbers", RollingTest::onlyWhoRolls);
        Checks.sentence(7, "that went to the same sides as it at all points that both have passed",
                RollingTest::onlyOnTheSameWay);
        Checks.sentence(7, "the one with the greatest number that went to the same sides", RollingTest::caughtByTwo);
        Checks.sentence(7, "each with the one AHEAD of it: of those that roll with lesser numbers, the one with the"
                + " greatest number", RollingTest::aheadWhenTheNearerOneLands);
        Checks.sentence(7, "If its place is not below that one's rear, it is CAUGHT: its place becomes that rear",
                RollingTest::notBelowTheRear);
        Checks.sentence(7, "both speeds become (mass speed + mass speed) / (mass + mass), its own first",
                RollingTest::commonSpeed);
        Checks.sentence(7, "mass being wagons times tons", RollingTest::byTheirNumbers);
        Checks.sentence(7, "4. Cuts that roll, by their numbers", RollingTest::byTheirNumbers);
        Checks.sentence(7, "It is an event, if the one by which it was caught latest is another one (or none)",
                RollingTest::anEventOnce);
    }

    public static void main(String[] args) {
        step3();
        step4();
        Checks.end();
    }
}
