import java.util.List;

/** What is asked of a hearth without embers, of an empty bucket, after 40 were lit, and of one gone out. */
public final class StatesTest {
    private static final Checks CHECKS = new Checks();
    private static final int[] POWERS = {0, 1, 2, 4, 8, 16, 32, 64, 128, 256, 512};

    public static void main(String[] args) {
        hearthNew();
        hearthRaked();
        hearthQuenched();
        hearthPoured();
        hearthsBothWithout();
        hearthIsUsedAgain();
        bucketNeverUsed();
        bucketRaked();
        bucketQuenched();
        bucketFaded();
        bucketSpread();
        bucketRaised();
        bucketsBetween();
        fortyCanNotBeMore();
        fortyAreTold();
        fortyGoOn();
        fortyInTheBucket10();
        goneOutIsTold();
        goneOutIsRefused();
        goneOutLiesNowhere();
        goneOutBindsNoLow();
        goneOutIsNotPoured();
        CHECKS.end("StatesTest");
    }

    private static RadixHearth lit(int... heats) {
        RadixHearth x = new RadixHearth();
        Checks.light(x, 0, heats);
        return x;
    }

    /** All that is asked of a hearth without embers; it is made anew for each question. */
    private static void withoutEmbers(String name, int hearth, int low, int rakes, Twins.Maker maker) {
        CHECKS.aboutDue(maker.make(), hearth, 0, low, -1, -1, rakes, -1);
        Twins twins = new Twins(CHECKS, maker);
        for (int bucket = 0; bucket <= 10; bucket++) {
            int asked = bucket;
            twins.answers(name + ": many " + bucket, 0, x -> x.many(hearth, asked));
            twins.outside(name + ": lies " + bucket, x -> x.lies(hearth, asked, 0));
        }
        twins.state(name + ": rake", x -> x.rake(hearth));
        twins.outside(name + ": next 0", x -> x.next(hearth, 0));
        twins.answers(name + ": moves 0", 0, x -> x.moves(hearth, 0));
        twins.argument(name + ": moves 1", x -> x.moves(hearth, 1));
        twins.answers(name + ": highest", 1023, x -> x.highest(hearth));
        twins.answers(name + ": advise", -1, x -> x.advise(hearth));
        twins.answers(name + ": bucketOf the low", 0, x -> x.bucketOf(hearth, low));
        twins.argument(name + ": bucketOf less", x -> x.bucketOf(hearth, low - 1));
        twins.argument(name + ": light less", x -> x.light(hearth, low - 1));
        twins.answers(name + ": raise to the low", 0, x -> x.raise(hearth, low));
        twins.argument(name + ": raise to less", x -> x.raise(hearth, low - 1));
        twins.argument(name + ": raise to 1024", x -> x.raise(hearth, 1024));
        withoutEmbersChanged(name, hearth, maker);
    }

    private static void withoutEmbersChanged(String name, int hearth, Twins.Maker maker) {
        RadixHearth raised = maker.make();
        int moves = raised.count(2);
        CHECKS.due(name + ": raise to 1023", raised.raise(hearth, 1023), 0);
        CHECKS.due(name + ": low", raised.about(hearth, 1), 1023);
        RadixHearth poured = maker.make();
        String other = ofHearth(poured, 1 - hearth);
        CHECKS.due(name + ": pour", poured.pour(hearth), 0);
        CHECKS.due(name + ": low of the one poured", poured.about(hearth, 1), 0);
        CHECKS.due(name + ": the other one", ofHearth(poured, 1 - hearth), other);
        CHECKS.due(name + ": moves", List.of(raised.count(2), poured.count(2)), List.of(moves, moves));
    }

    private static String ofHearth(RadixHearth x, int hearth) {
        StringBuilder text = new StringBuilder();
        for (int what = 0; what < 6; what++) {
            text.append(x.about(hearth, what)).append(' ');
        }
        for (int bucket = 0; bucket <= 10; bucket++) {
            for (int place = 0; place < x.many(hearth, bucket); place++) {
                text.append(bucket).append(':').append(x.lies(hearth, bucket, place)).append(' ');
            }
        }
        return text.toString();
    }

    private static void hearthNew() {
        withoutEmbers("new", 0, 0, 0, RadixHearth::new);
        withoutEmbers("new beside one with embers", 1, 0, 0, () -> lit(3, 3, 900));
    }

    private static void hearthRaked() {
        withoutEmbers("raked", 0, 9, 2, () -> {
            RadixHearth x = lit(9, 4);
            x.light(1, 77);
            x.rake(0);
            x.rake(0);
            return x;
        });
    }

    private static void hearthQuenched() {
        withoutEmbers("put out", 1, 2, 0, () -> {
            RadixHearth x = lit(5);
            x.raise(1, 2);
            Checks.light(x, 1, 2, 600);
            x.quench(1);
            x.quench(2);
            return x;
        });
    }

    private static void hearthPoured() {
        withoutEmbers("poured", 0, 0, 1, () -> {
            RadixHearth x = lit(9, 4, 700);
            x.rake(0);
            x.pour(0);
            return x;
        });
    }

    private static void hearthsBothWithout() {
        Twins.Maker maker = () -> {
            RadixHearth x = new RadixHearth();
            x.raise(0, 30);
            x.raise(1, 40);
            return x;
        };
        withoutEmbers("both without", 0, 30, 0, maker);
        withoutEmbers("both without", 1, 40, 0, maker);
        CHECKS.due("mean()", maker.make().mean(), 0.0);
    }

    private static void hearthIsUsedAgain() {
        RadixHearth x = lit(9);
        x.rake(0);
        CHECKS.due("light(0, 9)", x.light(0, 9), 1);
        CHECKS.bucketDue(x, 0, 0, 1);
        CHECKS.due("rake(0)", x.rake(0), 1);
        CHECKS.aboutDue(x, 0, 0, 9, -1, -1, 2, -1);
        CHECKS.due("moves", x.count(2), 1);
    }

    /** All that is asked of an empty bucket of the hearth 0. */
    private static void emptyBucket(String name, int bucket, Twins.Maker maker) {
        Twins twins = new Twins(CHECKS, maker);
        twins.answers(name + ": many", 0, x -> x.many(0, bucket));
        for (int place : new int[] {-1, 0, 1, 39, 40, Integer.MIN_VALUE, Integer.MAX_VALUE}) {
            twins.outside(name + ": lies " + place, x -> x.lies(0, bucket, place));
        }
        RadixHearth x = maker.make();
        CHECKS.due(name + ": is not the first one", x.about(0, 2) == bucket, false);
        CHECKS.due(name + ": is not the last one", x.about(0, 3) == bucket, false);
    }

    private static void bucketNeverUsed() {
        for (int bucket = 0; bucket <= 10; bucket++) {
            int asked = bucket;
            emptyBucket("never used " + bucket, bucket, () -> allButOne(asked));
        }
    }

    private static RadixHearth allButOne(int bucket) {
        RadixHearth x = new RadixHearth();
        for (int other = 0; other <= 10; other++) {
            if (other != bucket) {
                x.light(0, POWERS[other]);
                x.light(0, POWERS[other]);
            }
        }
        return x;
    }

    private static void bucketRaked() {
        emptyBucket("raked", 0, () -> {
            RadixHearth x = lit(0, 5);
            x.rake(0);
            return x;
        });
    }

    private static void bucketQuenched() {
        emptyBucket("put out", 3, () -> {
            RadixHearth x = lit(1, 5, 900);
            x.quench(1);
            return x;
        });
    }

    private static void bucketFaded() {
        emptyBucket("faded", 10, () -> {
            RadixHearth x = lit(1, 5, 900);
            x.fade(2, 300);
            return x;
        });
    }

    private static void bucketSpread() {
        emptyBucket("spread", 4, () -> {
            RadixHearth x = lit(8, 15, 900);
            x.rake(0);
            return x;
        });
    }

    private static void bucketRaised() {
        emptyBucket("raised", 4, () -> {
            RadixHearth x = lit(12, 15, 900);
            x.raise(0, 12);
            return x;
        });
    }

    // Buckets that are empty between others are passed over.
    private static void bucketsBetween() {
        RadixHearth x = lit(0, 512, 8);
        CHECKS.aboutDue(x, 0, 3, 0, 0, 10, 0, 512);
        x.rake(0);
        CHECKS.aboutDue(x, 0, 2, 0, 4, 10, 1, 512);
        CHECKS.due("rake(0)", x.rake(0), 2);
        CHECKS.aboutDue(x, 0, 1, 8, 10, 10, 2, 512);
        CHECKS.due("rake(0)", x.rake(0), 1);
        CHECKS.aboutDue(x, 0, 0, 512, -1, -1, 3, -1);
    }

    // The heats 100 to 81, twice over; the even numbers lie in the hearth 0, the others in the hearth 1.
    private static RadixHearth forty() {
        RadixHearth x = new RadixHearth();
        for (int ember = 0; ember < 40; ember++) {
            x.light(ember % 2, 100 - ember / 2);
        }
        return x;
    }

    private static void fortyCanNotBeMore() {
        Twins twins = new Twins(CHECKS, StatesTest::forty);
        twins.state("light(0, 0)", x -> x.light(0, 0));
        twins.state("light(1, 1023)", x -> x.light(1, 1023));
        twins.argument("light(1, 1024)", x -> x.light(1, 1024));
        twins.argument("light(0, -1)", x -> x.light(0, -1));
        twins.outside("light(2, 0)", x -> x.light(2, 0));
        twins.outside("light(-1, -1)", x -> x.light(-1, -1));
    }

    private static void fortyAreTold() {
        RadixHearth x = forty();
        CHECKS.countDue(x, 40, 40, 0, 0, 0);
        CHECKS.aboutDue(x, 0, 20, 0, 7, 7, 0, 100);
        CHECKS.aboutDue(x, 1, 20, 0, 7, 7, 0, 100);
        CHECKS.toldDue(x, 0, 100, 0, 7, 0, 0);
        CHECKS.toldDue(x, 39, 81, 1, 7, 0, 0);
        CHECKS.due("lies(1, 7, 19)", x.lies(1, 7, 19), 39);
        CHECKS.due("mean()", x.mean(), 90.5);
        CHECKS.due("next(1, 0)", x.next(1, 0), 39);
        CHECKS.due("next(1, 19)", x.next(1, 19), 1);
        CHECKS.due("bucketOf(0, 1023)", x.bucketOf(0, 1023), 10);
        Twins twins = new Twins(CHECKS, StatesTest::forty);
        twins.outside("told(40, 0)", y -> y.told(40, 0));
        twins.outside("fade(40, 0)", y -> y.fade(40, 0));
        twins.outside("quench(40)", y -> y.quench(40));
        twins.outside("lies(0, 7, 20)", y -> y.lies(0, 7, 20));
        twins.outside("next(0, 20)", y -> y.next(0, 20));
        twins.argument("moves(0, 21)", y -> y.moves(0, 21));
    }

    // All but light() goes on as before.
    private static void fortyGoOn() {
        RadixHearth x = forty();
        CHECKS.due("fade(39, 0)", x.fade(39, 0), 0);
        CHECKS.due("quench(38)", x.quench(38), 7);
        CHECKS.due("raise(0, 64)", x.raise(0, 64), 19);
        CHECKS.due("pour(0)", x.pour(0), 19);
        CHECKS.due("rake(1)", x.rake(1), 39);
        CHECKS.due("rake(1)", x.rake(1), 37);
        CHECKS.countDue(x, 40, 37, 76, 2, 1);
        CHECKS.due("many(1, 0)", x.many(1, 0), 1);
        CHECKS.due("lies(1, 0, 0)", x.lies(1, 0, 0), 36);
        CHECKS.refusedState(x, "light(0, 5)", () -> x.light(0, 5));
    }

    private static void fortyInTheBucket10() {
        int[] heats = new int[40];
        for (int ember = 0; ember < 40; ember++) {
            heats[ember] = 1023 - ember;
        }
        RadixHearth x = lit(heats);
        CHECKS.due("many(0, 10)", x.many(0, 10), 40);
        CHECKS.due("lies(0, 10, 39)", x.lies(0, 10, 39), 39);
        CHECKS.refusedOutside(x, "lies(0, 10, 40)", () -> x.lies(0, 10, 40));
        CHECKS.due("rake(0)", x.rake(0), 39);
        CHECKS.due("moves", x.count(2), 40);
        CHECKS.due("many(0, 10)", x.many(0, 10), 0);
        CHECKS.due("quench(0)", x.quench(0), 6);
    }

    // 0 is raked from the bucket 0, 1 and 2 by spreading, 3 is put out; 4 and 5 lie in the hearth 0 then.
    private static RadixHearth someGoneOut() {
        RadixHearth x = lit(0, 6, 7, 2, 900, 14);
        x.quench(3);
        x.rake(0);
        x.rake(0);
        x.rake(0);
        return x;
    }

    private static void goneOutIsTold() {
        RadixHearth x = someGoneOut();
        CHECKS.toldDue(x, 0, 0, -1, -1, 0, 1);
        CHECKS.toldDue(x, 1, 6, -1, -1, 1, 1);
        CHECKS.toldDue(x, 2, 7, -1, -1, 2, 1);
        CHECKS.toldDue(x, 3, 2, -1, -1, 0, 0);
        CHECKS.countDue(x, 6, 2, 3, 3, 1);
        x.raise(0, 14);
        x.pour(0);
        x.rake(1);
        CHECKS.toldDue(x, 1, 6, -1, -1, 1, 1);
        CHECKS.toldDue(x, 2, 7, -1, -1, 2, 1);
        CHECKS.toldDue(x, 3, 2, -1, -1, 0, 0);
        Twins twins = new Twins(CHECKS, StatesTest::someGoneOut);
        twins.outside("told(3, 5)", y -> y.told(3, 5));
        twins.outside("told(3, -1)", y -> y.told(3, -1));
    }

    private static void goneOutIsRefused() {
        Twins twins = new Twins(CHECKS, StatesTest::someGoneOut);
        for (int ember = 0; ember < 4; ember++) {
            int out = ember;
            twins.state("fade(" + out + ", 7)", x -> x.fade(out, 7));
            twins.state("fade(" + out + ", -1)", x -> x.fade(out, -1));
            twins.state("fade(" + out + ", 1024)", x -> x.fade(out, 1024));
            twins.state("quench(" + out + ")", x -> x.quench(out));
        }
    }

    private static void goneOutLiesNowhere() {
        RadixHearth x = someGoneOut();
        CHECKS.aboutDue(x, 0, 2, 7, 4, 10, 3, 900);
        for (int bucket = 0; bucket <= 10; bucket++) {
            int[] due = bucket == 4 ? new int[] {5} : bucket == 10 ? new int[] {4} : new int[0];
            CHECKS.bucketDue(x, 0, bucket, due);
            CHECKS.bucketDue(x, 1, bucket);
        }
        CHECKS.due("next(0, 0)", x.next(0, 0), 5);
        CHECKS.due("next(0, 1)", x.next(0, 1), 4);
        CHECKS.refusedOutside(x, "next(0, 2)", () -> x.next(0, 2));
        CHECKS.due("moves(0, 2)", x.moves(0, 2), 2);
        CHECKS.due("advise(0)", x.advise(0), 4);
        CHECKS.due("mean()", x.mean(), 457.0);
        CHECKS.due("light(0, 7)", x.light(0, 7), 6);
    }

    // Neither what low there may be, nor how hot the hottest one is, is told by one that has gone out.
    private static void goneOutBindsNoLow() {
        RadixHearth x = lit(5, 900, 30);
        x.quench(0);
        CHECKS.due("highest(0)", x.highest(0), 30);
        CHECKS.due("raise(0, 30)", x.raise(0, 30), 2);
        x.quench(1);
        CHECKS.due("about(0, 5)", x.about(0, 5), 30);
        x.quench(2);
        CHECKS.due("highest(0), all out", x.highest(0), 1023);
        CHECKS.due("raise(0, 1023)", x.raise(0, 1023), 0);
    }

    private static void goneOutIsNotPoured() {
        RadixHearth x = lit(5, 900, 30);
        x.raise(1, 31);
        x.quench(0);
        CHECKS.refusedState(x, "pour(0)", () -> x.pour(0));
        x.rake(0);
        CHECKS.due("pour(0)", x.pour(0), 1);
        CHECKS.aboutDue(x, 1, 1, 31, 10, 10, 0, 900);
        CHECKS.aboutDue(x, 0, 0, 0, -1, -1, 1, -1);
        CHECKS.toldDue(x, 0, 5, -1, -1, 0, 0);
        CHECKS.toldDue(x, 2, 30, -1, -1, 1, 1);
    }
}
