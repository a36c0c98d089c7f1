import java.util.Random;

/**
 * Long runs of calls, drawn from fixed seeds, on the class and on the model: all promises at once. With the
 * digest() behind each step a run has the 512 calls for which an object is used.
 */
public final class ModelTest {
    private static final Checks CHECKS = new Checks();
    private static final int RUNS = 800;
    private static final int STEPS = 256;
    private static final int[] FAR_OFF = {-1, 2, 40, 1024, -1024, Integer.MAX_VALUE, Integer.MIN_VALUE};

    private final RadixHearth real = new RadixHearth();
    private final Model model = new Model();
    private final Random random;
    private final int spread;
    private String run;

    private ModelTest(int seed) {
        random = new Random(seed);
        spread = new int[] {3, 20, 130, 1100}[seed % 4];
    }

    public static void main(String[] args) {
        for (int seed = 0; seed < RUNS; seed++) {
            new ModelTest(seed).play(seed);
        }
        CHECKS.end("ModelTest");
    }

    private void play(int seed) {
        for (int call = 0; call < STEPS; call++) {
            run = "run " + seed + ", call " + call + ": ";
            step(random.nextInt(30));
            CHECKS.due(run + "digest()", real.digest(), model.digest());
        }
    }

    private void step(int kind) {
        int hearth = orFarOff(random.nextInt(2));
        int ember = orFarOff(random.nextInt(random.nextInt(8) == 0 ? 42 : Math.max(1, model.embers.size())));
        int heat = orFarOff(heatFor(hearth));
        if (kind < 8) {
            same("light(" + hearth + ", " + heat + ")", () -> real.light(hearth, heat), () -> model.light(hearth, heat));
        } else if (kind < 12) {
            same("fade(" + ember + ", " + heat + ")", () -> real.fade(ember, heat), () -> model.fade(ember, heat));
        } else if (kind < 13) {
            same("quench(" + ember + ")", () -> real.quench(ember), () -> model.quench(ember));
        } else if (kind < 15) {
            same("rake(" + hearth + ")", () -> real.rake(hearth), () -> model.rake(hearth));
        } else if (kind < 17) {
            same("raise(" + hearth + ", " + heat + ")", () -> real.raise(hearth, heat), () -> model.raise(hearth, heat));
        } else if (kind < 18) {
            same("pour(" + hearth + ")", () -> real.pour(hearth), () -> model.pour(hearth));
        } else {
            ask(kind - 18, hearth, ember, heat);
        }
    }

    private void ask(int kind, int hearth, int ember, int heat) {
        int small = orFarOff(random.nextInt(13));
        int place = orFarOff(random.nextInt(5));
        int times = orFarOff(random.nextInt(41));
        switch (kind) {
            case 0 -> same("many " + hearth + " " + small, () -> real.many(hearth, small), () -> model.many(hearth, small));
            case 1 -> same("lies " + hearth + " " + small + " " + place,
                    () -> real.lies(hearth, small, place), () -> model.lies(hearth, small, place));
            case 2 -> same("bucketOf " + hearth + " " + heat,
                    () -> real.bucketOf(hearth, heat), () -> model.bucketOf(hearth, heat));
            case 3 -> same("about " + hearth + " " + small, () -> real.about(hearth, small), () -> model.about(hearth, small));
            case 4 -> same("told " + ember + " " + small, () -> real.told(ember, small), () -> model.told(ember, small));
            case 5 -> same("count " + small, () -> real.count(small), () -> model.count(small));
            case 6 -> same("next " + hearth + " " + place, () -> real.next(hearth, place), () -> model.next(hearth, place));
            case 7 -> same("next " + hearth + " " + times, () -> real.next(hearth, times), () -> model.next(hearth, times));
            case 8 -> same("moves " + hearth + " " + times, () -> real.moves(hearth, times), () -> model.moves(hearth, times));
            case 9 -> same("highest " + hearth, () -> real.highest(hearth), () -> model.highest(hearth));
            case 10 -> same("advise " + hearth, () -> real.advise(hearth), () -> model.advise(hearth));
            default -> same("mean", () -> real.mean(), () -> model.mean());
        }
    }

    /** Mostly a heat a little above the low of a hearth, so that the runs go far before the embers end. */
    private int heatFor(int hearth) {
        int low = hearth == 0 || hearth == 1 ? model.low[hearth] : 0;
        return low - 1 + random.nextInt(2) + random.nextInt(spread);
    }

    private int orFarOff(int number) {
        return random.nextInt(30) == 0 ? FAR_OFF[random.nextInt(FAR_OFF.length)] : number;
    }

    private void same(String call, Checks.Call asked, Checks.Call due) {
        CHECKS.due(run + call, told(asked), told(due));
    }

    private static Object told(Checks.Call call) {
        try {
            return call.answer();
        } catch (IndexOutOfBoundsException | IllegalArgumentException | IllegalStateException thrown) {
            return thrown.getClass().getName();
        }
    }
}
