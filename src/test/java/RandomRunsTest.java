import java.util.function.Supplier;

/** All promises: long runs of calls on the class and on the plain model, which must answer and throw the same. */
final class RandomRunsTest {
    private static final int RUNS = 300;
    private static final int CALLS = 512;
    private static final int[] FAR = {Integer.MIN_VALUE, Integer.MAX_VALUE, -2, 99};

    private static final Check check = new Check();

    private long seed;
    private final BandDay day = new BandDay();
    private final PlainModel model = new PlainModel();

    private RandomRunsTest(long seed) {
        this.seed = seed * 7919 + 17;
    }

    public static void main(String[] args) {
        for (int run = 0; run < RUNS; run++) {
            new RandomRunsTest(run).run("run " + run);
        }
        check.end();
    }

    private void run(String name) {
        // The runs differ in how many players and bands they have, and in how often they hold contests.
        int players = below(25);
        int bands = below(7);
        for (int i = 0; i < players; i++) {
            compare(name, 0);
        }
        for (int i = 0; i < bands; i++) {
            compare(name, 1);
        }
        for (int i = 0; i < bands * 4; i++) {
            compare(name, 2);
        }
        int often = 1 + below(4);
        // The digests are calls, too.
        for (int call = players + 5 * bands; call < CALLS / 2; call++) {
            compare(name, below(often) == 0 ? 11 : below(19));
        }
    }

    private void compare(String name, int kind) {
        int a = number(kind, 0);
        int b = number(kind, 1);
        int c = number(kind, 2);
        int d = number(kind, 3);
        String what = name + ": call " + kind + " of " + a + ", " + b + ", " + c + ", " + d;
        String due = answer(() -> onModel(kind, a, b, c, d));
        String got = answer(() -> onClass(kind, a, b, c, d));
        check.holds(what + " answers " + got + ", due is " + due, due.equals(got));
        check.same(what + ", the digest", model.digest(), day.digest());
    }

    private static String answer(Supplier<Number> call) {
        try {
            return call.get().toString();
        } catch (RuntimeException e) {
            return e.getClass().getName();
        }
    }

    private Number onClass(int kind, int a, int b, int c, int d) {
        switch (kind) {
            case 0: return day.addPlayer(a, b, c, d);
            case 1: return day.found(a);
            case 2: return day.seat(a, b, c);
            case 3: return day.change(a, b, c);
            case 4: return day.absent(a, b);
            case 5: return day.rehearse(a);
            case 6: return day.setPiece(a, b);
            case 7: return day.setTaste(a, b);
            case 8: return day.player(a, b);
            case 9: return day.band(a, b);
            case 10: return day.chair(a, b, c);
            case 11: return day.contest();
            case 12: return day.rank(a);
            case 13: return day.count(a);
            case 14: return day.foresee(a, b, c);
            case 15: return day.advise(a);
            case 16: return day.free(a);
            case 17: return day.mean();
            default: return day.digest();
        }
    }

    private Number onModel(int kind, int a, int b, int c, int d) {
        switch (kind) {
            case 0: return model.addPlayer(a, b, c, d);
            case 1: return model.found(a);
            case 2: return model.seat(a, b, c);
            case 3: return model.change(a, b, c);
            case 4: return model.absent(a, b);
            case 5: return model.rehearse(a);
            case 6: return model.setPiece(a, b);
            case 7: return model.setTaste(a, b);
            case 8: return model.player(a, b);
            case 9: return model.band(a, b);
            case 10: return model.chair(a, b, c);
            case 11: return model.contest();
            case 12: return model.rank(a);
            case 13: return model.count(a);
            case 14: return model.foresee(a, b, c);
            case 15: return model.advise(a);
            case 16: return model.free(a);
            case 17: return model.mean();
            default: return model.digest();
        }
    }

    /** An argument that is mostly good, sometimes just beside, seldom far off. */
    private int number(int kind, int position) {
        int dice = below(60);
        if (dice == 0) {
            return FAR[below(FAR.length)];
        }
        int most = most(kind, position);
        if (dice <= 2) {
            return dice == 1 ? -1 : most + 1;
        }
        return kind == 1 ? seats() : below(most + 1);
    }

    private int most(int kind, int position) {
        int players = model.count(1) - 1;
        int bands = model.count(2) - 1;
        switch (kind) {
            case 0: return 9;
            case 2: return position == 0 ? bands : position == 1 ? 5 : players;
            case 3: return position == 0 ? bands : 5;
            case 4: return position == 0 ? players : below(4) == 0 ? 20 : 2;
            case 5: case 12: case 15: return bands;
            case 6: return position == 0 ? 3 : 9;
            case 7: return position == 0 ? 3 : 5;
            case 8: return position == 0 ? players : 9;
            case 9: return position == 0 ? bands : 8;
            case 10: return position == 0 ? bands : position == 1 ? 5 : 2;
            case 13: return 6;
            case 14: return position == 0 ? bands : position == 1 ? 20 : 3;
            default: return 3;
        }
    }

    private int seats() {
        int digits = 0;
        for (int size = 1 + below(8); size > 0; size--) {
            digits = digits * 10 + 1 + below(4);
        }
        return digits;
    }

    /** A number of the run's own row, which is the same each time. */
    private int below(int bound) {
        seed = seed * 6364136223846793005L + 1442695040888963407L;
        return (int) ((seed >>> 33) % Math.max(1, bound));
    }
}
