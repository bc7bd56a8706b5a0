import java.util.function.LongSupplier;

/** Long runs of mixed calls, each answer compared to that of the plain model. */
public final class ModelTest {
    private static final int RUNS = 150;
    private static final int CALLS = 512;

    private long state;
    private final BlossomTours land = new BlossomTours();
    private final PlainModel model = new PlainModel();
    private final int run;

    private ModelTest(int run) {
        this.run = run;
        this.state = 77L * run + 5;
    }

    public static void main(String[] args) {
        for (int run = 0; run < RUNS; run++) {
            ModelTest test = new ModelTest(run);
            for (int call = 0; call < CALLS; call++) {
                test.oneCall(call);
            }
        }
        Check.end();
    }

    /** A number from least to most, the same ones in the same order each time. */
    private int pick(int least, int most) {
        state = state * 6364136223846793005L + 1442695040888963407L;
        return least + (int) ((state >>> 33) % (most - least + 1));
    }

    /** Mostly within the bounds, now and then outside of them. */
    private int about(int least, int most) {
        int way = pick(0, 59);
        if (way == 0) {
            return least - 1;
        }
        if (way == 1) {
            return most + 1;
        }
        if (way == 2) {
            return pick(0, 1) == 0 ? Integer.MIN_VALUE : Integer.MAX_VALUE;
        }
        return way < 8 ? (way % 2 == 0 ? least : most) : pick(least, most);
    }

    private int someValley() {
        return about(0, Math.max(0, model.valleyCount() - 1));
    }

    private int someTour() {
        return about(0, Math.max(0, model.tourCount() - 1));
    }

    private void oneCall(int call) {
        int kind = call < 12 ? pick(0, 1) * 5 : pick(0, 18);
        if (call >= 12 && kind <= 1 && pick(0, 3) > 0) {
            kind = 7;
        }
        int a;
        int b;
        int c;
        switch (kind) {
            case 0:
                a = about(0, run % 2 == 0 ? 90 : 8); b = about(1, 30); c = about(0, 50);
                same("valley", a, b, c, () -> land.valley(a, b, c), () -> model.valley(a, b, c));
                break;
            case 1:
                a = someValley(); b = someValley(); c = about(1, run % 3 == 0 ? 240 : 60);
                same("road", a, b, c, () -> land.road(a, b, c), () -> model.road(a, b, c));
                break;
            case 2:
                a = about(0, 9); b = about(0, 40);
                same("setHeat", a, b, 0, () -> land.setHeat(a, b), () -> model.setHeat(a, b));
                break;
            case 3:
                a = someValley(); b = about(0, 120);
                same("bloom", a, b, 0, () -> land.bloom(a, b), () -> model.bloom(a, b));
                break;
            case 4:
                a = someValley(); b = someValley();
                same("way", a, b, 0, () -> land.way(a, b), () -> model.way(a, b));
                break;
            case 5:
                a = about(1, 60);
                same("tour", a, 0, 0, () -> land.tour(a), () -> model.tour(a));
                break;
            case 6:
            case 7:
                a = someTour(); b = someValley();
                same("add", a, b, 0, () -> land.add(a, b), () -> model.add(a, b));
                break;
            case 8:
                a = someTour();
                same("cut", a, 0, 0, () -> land.cut(a), () -> model.cut(a));
                break;
            case 9:
                a = someTour(); b = about(0, 5);
                same("told", a, b, 0, () -> land.told(a, b), () -> model.told(a, b));
                break;
            case 10:
                a = someValley(); b = about(0, 5);
                same("about", a, b, 0, () -> land.about(a, b), () -> model.about(a, b));
                break;
            case 11:
                a = about(0, 8);
                same("count", a, 0, 0, () -> land.count(a), () -> model.count(a));
                break;
            case 12:
                a = pick(0, 9) == 0 ? about(1, 60) : pick(1, 3);
                same("pass", a, 0, 0, () -> land.pass(a), () -> model.pass(a));
                break;
            case 13:
                a = someTour(); b = about(0, 120);
                same("joy", a, b, 0, () -> land.joy(a, b), () -> model.joy(a, b));
                break;
            case 14:
                a = someTour();
                same("best", a, 0, 0, () -> land.best(a), () -> model.best(a));
                break;
            case 15:
            case 16:
                a = someTour();
                same("advise", a, 0, 0, () -> land.advise(a), () -> model.advise(a));
                break;
            case 17:
                a = about(1, 60); b = about(5, 8);
                same("foresee", a, b, 0, () -> land.foresee(a, b), () -> model.foresee(a, b));
                break;
            default:
                Check.equal("run " + run + ": mean()", land.mean(), model.mean());
                break;
        }
        if (call % 8 == 7) {
            Check.equal("run " + run + ": digest() behind call " + call, land.digest(), model.digest());
        }
    }

    private void same(String name, int a, int b, int c, LongSupplier got, LongSupplier due) {
        String gotText = answer(got);
        String dueText = answer(due);
        if (!gotText.equals(dueText)) {
            Check.fail("run " + run + ": " + name + " of " + a + ", " + b + ", " + c
                    + " answered " + gotText + ", due is " + dueText);
        }
    }

    private static String answer(LongSupplier call) {
        try {
            return Long.toString(call.getAsLong());
        } catch (PlainModel.Refusal e) {
            return new String[] {"", "IndexOutOfBoundsException", "IllegalArgumentException",
                "IllegalStateException"}[e.kind];
        } catch (RuntimeException e) {
            return e.getClass().getSimpleName();
        }
    }
}
