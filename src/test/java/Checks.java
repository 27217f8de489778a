import java.io.IOException;
import java.nio.file.Files;
import java.nio.file.Path;

/**
 * What the tests share: each sentence of the document has its test, answers are compared and
 * wrong ones counted, and yards are made that have rolled a while.
 */
final class Checks {
    private static final Path DOCUMENT = Path.of("../shared/DOC.md");

    private static String now = "";
    private static int sentences = 0;
    private static int made = 0;
    private static int wrong = 0;

    interface Call {
        Object answer();
    }

    private Checks() {
    }

    /**
     * Runs the test of one sentence. Its words must stand in the document, under the promise
     * or in what the promises rest on, so that no test is left behind by its sentence.
     */
    static void sentence(int promise, String words, Runnable test) {
        now = "promise " + promise + ", '" + words + "': ";
        sentences++;
        due("stands in the document", stands(promise, words), true);
        int before = made;
        try {
            test.run();
        } catch (RuntimeException e) {
            due("the test came to its end", e, "the end");
            e.printStackTrace(System.out);
        }
        due("something was asked", made > before, true);
        now = "";
    }

    private static boolean stands(int promise, String words) {
        String text;
        try {
            text = Files.readString(DOCUMENT).replaceAll("\\s+", " ");
        } catch (IOException e) {
            return false;
        }
        int begin = text.indexOf(" ## Promise " + promise + ":");
        int end = text.indexOf(" ## ", begin + 1);
        int promises = text.indexOf(" ## Promise 1:");
        return begin >= 0 && end >= 0 && (text.substring(begin, end).contains(words)
                || text.substring(0, promises).contains(words));
    }

    static void due(String what, Object got, Object want) {
        made++;
        if (!got.equals(want)) {
            wrong++;
            System.out.println(now + what + " answered " + got + ", due is " + want);
        }
    }

    /** The call must throw just this exception, and by a throw of HumpYard's own. */
    static void dueThrow(String what, Class<? extends RuntimeException> want, Call call) {
        Object got;
        try {
            got = call.answer();
        } catch (RuntimeException e) {
            StackTraceElement[] trace = e.getStackTrace();
            boolean own = trace.length > 0 && trace[0].getClassName().startsWith("HumpYard");
            got = own ? e.getClass() : "by the machine or the library " + e;
        }
        due(what, got, want);
    }

    static void dueIndex(String what, Call call) {
        dueThrow(what, IndexOutOfBoundsException.class, call);
    }

    static void dueArgument(String what, Call call) {
        dueThrow(what, IllegalArgumentException.class, call);
    }

    /** Whole numbers that are not least .. most, the nearest ones first. */
    static int[] outside(int least, int most) {
        return new int[] {
            least - 1, most + 1, least - 2, most + 2, Integer.MAX_VALUE, Integer.MIN_VALUE,
        };
    }

    /** Doubles that are not 0 .. most, the nearest ones first. */
    static double[] outside(double most) {
        return new double[] {
            -Double.MIN_VALUE, Math.nextUp(most), -0.125, most + 0.125, Double.MAX_VALUE, -Double.MAX_VALUE,
            Double.NaN, Double.POSITIVE_INFINITY, Double.NEGATIVE_INFINITY,
        };
    }

    /** Doubles of 0 .. most, from edge to edge. */
    static double[] inside(double most) {
        return new double[] {
            0, Double.MIN_VALUE, 0.1, most / 3, Math.nextDown(most), most,
        };
    }

    /** Any number of ticks, in calls of at most 400: how many events there were. */
    static int roll(HumpYard yard, int ticks) {
        int events = 0;
        for (int left = ticks; left > 0; left -= 400) {
            events += yard.tick(Math.min(left, 400));
        }
        return events;
    }

    /** A yard whose retarders all let pass what comes. */
    static HumpYard unbraked() {
        HumpYard yard = new HumpYard();
        for (int retarder = 0; retarder < 9; retarder++) {
            yard.wish(retarder, 20);
        }
        return yard;
    }

    /** An unbraked yard with one cut that has rolled for so many ticks. */
    static HumpYard lone(int wagons, double resistance, int track, double push, int rolled) {
        HumpYard yard = unbraked();
        yard.cut(wagons, 10, resistance, track);
        pushOne(yard, push);
        roll(yard, rolled);
        return yard;
    }

    /** Lets the next cut over the crest, and none behind it. */
    static void pushOne(HumpYard yard, double speed) {
        yard.push(speed);
        yard.tick(1);
        yard.push(0);
    }

    /** The points on the way to a track. */
    static int[] way(int track) {
        return new int[] {0, 1 + track / 4, 3 + track / 2};
    }

    static double pointPlace(int point) {
        return point == 0 ? 80 : point < 3 ? 120 : 160;
    }

    static double grade(double place) {
        return place < 60 ? 0.046875 : place < 200 ? 0.0125 : 0.001;
    }

    static void end() {
        System.out.println(sentences + " sentences, " + made + " checks, " + wrong + " wrong");
        if (wrong != 0) {
            System.exit(1);
        }
    }
}
