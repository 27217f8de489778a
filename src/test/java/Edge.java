/**
 * A lone cut that nothing brakes comes after some ticks just below a place, onto it, or just
 * beyond it. The pushes for that are looked for by reckoning as the document does, apart from
 * HumpYard, so that they can be had for every place that the document names.
 */
final class Edge {
    static final int BELOW = 0;
    static final int ON = 1;
    static final int BEYOND = 2;
    static final int[] ALL = {BELOW, ON, BEYOND};

    private static final double LEAST_PUSH = 0.125;
    private static final double MOST_PUSH = 4;

    final double place;
    final int wagons;
    final int track;
    final double resistance;
    final int rolled;
    private final double[] pushes = new double[3];

    private Edge(double place, int wagons, int track, double resistance, int rolled) {
        this.place = place;
        this.wagons = wagons;
        this.track = track;
        this.resistance = resistance;
        this.rolled = rolled;
    }

    static Edge at(double place, int wagons, int track) {
        return at(place, wagons, track, place > 250 ? 0.5 : 2);
    }

    static Edge at(double place, int wagons, int track, double resistance) {
        for (int rolled = 1; rolled < 1500; rolled++) {
            Edge edge = new Edge(place, wagons, track, resistance, rolled);
            if (edge.isFound()) {
                return edge;
            }
        }
        throw new IllegalStateException("no push for place " + place);
    }

    /** The place at which it has come to rest, with a resistance at which it does before long. */
    static Edge ofRest(double place, int wagons, int track) {
        for (double resistance = 16; resistance > 12; resistance -= 0.0625) {
            Edge edge = new Edge(place, wagons, track, resistance, 2000);
            if (edge.isFound()) {
                return edge;
            }
        }
        throw new IllegalStateException("no push for rest at place " + place);
    }

    private boolean isFound() {
        double low = LEAST_PUSH;
        double high = MOST_PUSH;
        if (reckoned(low) >= place || reckoned(high) < place) {
            return false;
        }
        while (Math.nextUp(low) < high) {
            double middle = (low + high) / 2;
            if (reckoned(middle) < place) {
                low = middle;
            } else {
                high = middle;
            }
        }
        pushes[BELOW] = low;
        pushes[ON] = high;
        pushes[BEYOND] = high;
        for (int i = 0; i < 100 && reckoned(pushes[BEYOND]) == place; i++) {
            pushes[BEYOND] = Math.nextUp(pushes[BEYOND]);
        }
        return reckoned(high) == place && reckoned(pushes[BEYOND]) > place && pushes[BEYOND] <= MOST_PUSH;
    }

    private double reckoned(double push) {
        double at = 0;
        double speed = push;
        for (int i = 0; i < rolled; i++) {
            speed = speed + 9.8125 * (Checks.grade(at) - resistance / 1024) * 0.125;
            speed = speed < 0 ? 0 : speed;
            at = at + speed * 0.125;
        }
        return at;
    }

    /** After how many ticks it has come to rest. */
    int ticksToRest(int which) {
        return ticksToRest(resistance, pushes[which]);
    }

    static int ticksToRest(double resistance, double push) {
        double at = 0;
        double speed = push;
        int ticks = 0;
        while (speed > 0) {
            speed = speed + 9.8125 * (Checks.grade(at) - resistance / 1024) * 0.125;
            at = at + (speed < 0 ? 0 : speed) * 0.125;
            ticks++;
        }
        return ticks;
    }

    double push(int which) {
        return pushes[which];
    }

    /** Cut 0 is at the crest, and comes to the edge when it has rolled. */
    HumpYard start(int which) {
        return Checks.lone(wagons, resistance, track, pushes[which], 0);
    }

    /** Cut 0 comes to the edge with the next tick. */
    HumpYard tickBefore(int which) {
        HumpYard yard = start(which);
        Checks.roll(yard, rolled - 1);
        return yard;
    }

    HumpYard yard(int which) {
        HumpYard yard = start(which);
        Checks.roll(yard, rolled);
        dueThere(which, yard);
        return yard;
    }

    /** Without this a test could miss its edge and not tell. */
    void dueThere(int which, HumpYard yard) {
        int side = Double.compare(yard.place(0), place);
        Checks.due("below, on or beyond " + place, Integer.signum(side), which - 1);
        Checks.due("hardly away from " + place, Math.abs(yard.place(0) - place) < 1e-9, true);
    }

    String name(int which) {
        return new String[] {"just below ", "on ", "just beyond "}[which] + place;
    }
}
