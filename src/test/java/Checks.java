/** What the tests share: compare answers, count wrong ones, and make yards that have rolled a while. */
final class Checks {
    private static int made = 0;
    private static int wrong = 0;

    interface Call {
        Object answer();
    }

    private Checks() {
    }

    static void due(String what, Object got, Object want) {
        made++;
        if (!got.equals(want)) {
            wrong++;
            System.out.println(what + " answered " + got + ", due is " + want);
        }
    }

    /** The call must throw just this exception, and by a throw of HumpYard's own. */
    static void dueThrow(String what, Class<? extends RuntimeException> want, Call call) {
        Object got;
        try {
            got = call.answer();
        } catch (RuntimeException e) {
            StackTraceElement[] trace = e.getStackTrace();
            boolean own = trace.length > 0 && trace[0].getClassName().startsWith("HumpYard");
            got = own ? e.getClass() : "by the machine or the library " + e;
        }
        due(what, got, want);
    }

    static void dueIndex(String what, Call call) {
        dueThrow(what, IndexOutOfBoundsException.class, call);
    }

    static void dueArgument(String what, Call call) {
        dueThrow(what, IllegalArgumentException.class, call);
    }

    /** Doubles that are not 0 .. most. */
    static double[] outside(double most) {
        return new double[] {
            -0.125, -Double.MIN_VALUE, Math.nextUp(most), most + 0.125, Double.NaN,
            Double.POSITIVE_INFINITY, Double.NEGATIVE_INFINITY,
        };
    }

    /** Any number of ticks, in calls of at most 400. */
    static void roll(HumpYard yard, int ticks) {
        for (int left = ticks; left > 0; left -= 400) {
            yard.tick(Math.min(left, 400));
        }
    }

    /** A yard whose retarders all let pass what comes. */
    static HumpYard unbraked() {
        HumpYard yard = new HumpYard();
        for (int retarder = 0; retarder < 9; retarder++) {
            yard.wish(retarder, 20);
        }
        return yard;
    }

    /** An unbraked yard with one cut that has rolled for so many ticks. */
    static HumpYard lone(int wagons, double resistance, int track, double push, int rolled) {
        HumpYard yard = unbraked();
        yard.cut(wagons, 10, resistance, track);
        yard.push(push);
        roll(yard, 1 + rolled);
        return yard;
    }

    static void end() {
        System.out.println(made + " checks, " + wrong + " wrong");
        if (wrong != 0) {
            System.exit(1);
        }
    }
}
