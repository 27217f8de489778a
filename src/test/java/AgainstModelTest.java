import java.util.ArrayList;
import java.util.Arrays;
import java.util.List;
import java.util.Random;

/**
 * Long runs of made-up calls, the same ones every time, answered by HumpYard and by YardModel:
 * every answer and every exception must be the same.
 */
public final class AgainstModelTest {
    private static final int RUNS = 300;
    private static final int CALLS = 512;
    private static final String[] NAMES = {
        "cut", "push", "wish", "stick", "fill", "tick", "place", "speed", "told", "point",
        "siding", "event", "about", "fastest",
    };

    /** What the runs have met; a run of calls in which nothing happens tests nothing. */
    private static final int[] eventsMet = new int[4];
    private static int mostEvents = 0;
    private static int wrong = 0;

    private record Call(int kind, int a, int b, int c, double x) {
        public String toString() {
            return NAMES[kind] + " of " + a + ", " + b + ", " + c + ", " + x;
        }
    }

    private static String ofYard(HumpYard y, Call q) {
        try {
            switch (q.kind) {
                case 0: return "" + y.cut(q.a, q.b, q.x, q.c);
                case 1: return "" + y.push(q.x);
                case 2: return "" + y.wish(q.a, q.x);
                case 3: return "" + y.stick(q.a, q.b > 0);
                case 4: return "" + y.fill(q.a, q.x);
                case 5: return "" + y.tick(q.a);
                case 6: return "" + y.place(q.a);
                case 7: return "" + y.speed(q.a);
                case 8: return "" + y.told(q.a, q.b);
                case 9: return "" + y.point(q.a, q.b);
                case 10: return "" + y.siding(q.a, q.b);
                case 11: return "" + y.event(q.a, q.b);
                case 12: return "" + y.about(q.a);
                default: return "" + y.fastest();
            }
        } catch (RuntimeException e) {
            return "throws." + e.getClass().getSimpleName();
        }
    }

    private static String ofModel(YardModel y, Call q) {
        try {
            switch (q.kind) {
                case 0: return "" + y.cut(q.a, q.b, q.x, q.c);
                case 1: return "" + y.push(q.x);
                case 2: return "" + y.wish(q.a, q.x);
                case 3: return "" + y.stick(q.a, q.b > 0);
                case 4: return "" + y.fill(q.a, q.x);
                case 5: return "" + y.tick(q.a);
                case 6: return "" + y.place(q.a);
                case 7: return "" + y.speed(q.a);
                case 8: return "" + y.told(q.a, q.b);
                case 9: return "" + y.point(q.a, q.b);
                case 10: return "" + y.siding(q.a, q.b);
                case 11: return "" + y.event(q.a, q.b);
                case 12: return "" + y.about(q.a);
                default: return "" + y.fastest();
            }
        } catch (RuntimeException e) {
            return "throws." + e.getClass().getSimpleName();
        }
    }

    /** A number of 0 to most - 1, now and then one that lies beside them. */
    private static int about(Random r, int most) {
        int odd = r.nextInt(60);
        return odd == 0 ? -1 : odd == 1 ? most : odd == 2 ? Integer.MIN_VALUE : odd == 3 ? Integer.MAX_VALUE
                : r.nextInt(most);
    }

    /** A number of 0 to most, often an edge or a short binary fraction, now and then a wrong one. */
    private static double within(Random r, double most) {
        double[] odd = {-0.125, most + 0.125, Double.NaN, Double.POSITIVE_INFINITY, 0, most, 0, most};
        int which = r.nextInt(70);
        if (which < odd.length) {
            return odd[which];
        }
        double x = r.nextDouble() * most;
        return which % 2 == 0 ? x : Math.floor(x * 8) / 8;
    }

    /** How a whole run leans: long or short cuts, slow or fast wishes, narrow tracks, stuck points. */
    private record Lean(int wagons, double resistance, double wish, double free, int ticks, int tracks) {
        static Lean of(Random r) {
            return new Lean(new int[] {1, 2, 4, 20}[r.nextInt(4)], new double[] {0.5, 3, 16}[r.nextInt(3)],
                    new double[] {1, 3, 8, 20}[r.nextInt(4)], new double[] {60, 300, 800}[r.nextInt(3)],
                    new int[] {2, 30, 150, 400}[r.nextInt(4)], new int[] {2, 4, 8}[r.nextInt(3)]);
        }
    }

    private static Call made(Random r, Lean lean) {
        int kind = r.nextInt(22);
        int cuts = 12 + r.nextInt(50);
        switch (kind) {
            case 0: case 14: case 15:
                int wagons = r.nextInt(40) == 0 ? about(r, 21) : 1 + r.nextInt(lean.wagons);
                int tons = r.nextInt(40) == 0 ? about(r, 91) : 1 + r.nextInt(90);
                int track = r.nextInt(40) == 0 ? about(r, 8) : r.nextInt(lean.tracks);
                return new Call(0, wagons, tons, track, within(r, lean.resistance));
            case 1: return new Call(1, 0, 0, 0, r.nextInt(4) == 0 ? 0 : within(r, 4));
            case 2: return new Call(2, about(r, 9), 0, 0, within(r, lean.wish));
            case 3: return new Call(3, about(r, 7), r.nextInt(3) == 0 ? 1 : 0, 0, 0);
            case 4: return new Call(4, about(r, 8), 0, 0, within(r, lean.free));
            case 5: case 16: case 17: case 18:
                return new Call(5, r.nextInt(40) == 0 ? about(r, 401) : 1 + r.nextInt(lean.ticks), 0, 0, 0);
            case 6: case 7: return new Call(kind, about(r, cuts), 0, 0, 0);
            case 8: return new Call(8, about(r, cuts), about(r, 4), 0, 0);
            case 9: case 19: return new Call(9, about(r, 7), about(r, 3), 0, 0);
            case 10: return new Call(10, about(r, 8), about(r, 9), 0, 0);
            case 11: case 20: return new Call(11, about(r, r.nextBoolean() ? 4 : 210), about(r, 4), 0, 0);
            case 12: case 21: return new Call(12, about(r, 7), 0, 0, 0);
            default: return new Call(13, 0, 0, 0, 0);
        }
    }

    private static boolean agree(String run, HumpYard yard, YardModel model, Call q) {
        String got = ofYard(yard, q);
        String want = ofModel(model, q);
        if (!got.equals(want)) {
            wrong++;
            System.out.println(run + ": " + q + " answered " + got + ", due is " + want);
        }
        return got.equals(want);
    }

    private static void run(int seed) {
        Random r = new Random(seed);
        Lean lean = Lean.of(r);
        HumpYard yard = new HumpYard();
        YardModel model = new YardModel();
        for (int i = 0; i < CALLS; i++) {
            Call q = i == 0 ? new Call(1, 0, 0, 0, 1 + r.nextInt(3)) : made(r, lean);
            if (!agree("seed " + seed + ", call " + i, yard, model, q)) {
                return;
            }
        }
        count(model);
    }

    /** A crowd that has more events than are kept; of the events i those from first to last are asked. */
    private static void crowd(int first, int last) {
        HumpYard yard = new HumpYard();
        YardModel model = new YardModel();
        List<Call> calls = new ArrayList<>();
        calls.add(new Call(1, 0, 0, 0, 1));
        calls.add(new Call(2, 0, 0, 0, 1));
        for (int track = 0; track < 8; track++) {
            calls.add(new Call(2, 1 + track, 0, 0, 1.75));
            calls.add(new Call(4, track, 0, 0, 800));
        }
        for (int point = 3; point < 7; point++) {
            calls.add(new Call(3, point, 1, 0, 0));
        }
        for (int i = 0; i < 60; i++) {
            calls.add(new Call(0, 1, 1 + i * 8 % 90, i * 4 / 3 % 4 * 2 + 1, i * 5 % 4 * 0.75));
        }
        for (int i = 0; i < 20; i++) {
            calls.add(new Call(5, 400, 0, 0, 0));
        }
        for (int i = first; i <= last; i++) {
            for (int what = 0; what < 4; what++) {
                calls.add(new Call(11, i, what, 0, 0));
            }
        }
        for (Call q : calls) {
            agree("crowd", yard, model, q);
        }
        count(model);
    }

    private static void count(YardModel model) {
        mostEvents = Math.max(mostEvents, model.about(5));
        for (int i = 0; i < Math.min(200, model.about(5)); i++) {
            eventsMet[model.event(i, 0)]++;
        }
    }

    public static void main(String[] args) {
        for (int seed = 0; seed < RUNS; seed++) {
            run(seed);
        }
        crowd(0, 99);
        crowd(100, 199);
        crowd(200, 211);
        if (mostEvents <= 200) {
            wrong++;
            System.out.println("no run has more events than are kept");
        }
        System.out.println("events met, by kind: " + Arrays.toString(eventsMet) + ", most in one run: " + mostEvents);
        for (int met : eventsMet) {
            if (met < 100) {
                wrong++;
                System.out.println("the runs hardly meet an event of some kind");
            }
        }
        System.out.println(wrong == 0 ? "all answers are as due" : wrong + " answers are not as due");
        if (wrong != 0) {
            System.exit(1);
        }
    }
}
