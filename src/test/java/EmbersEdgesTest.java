/** The boundaries that promises 1 to 5 name; each test bears the sentence that it holds to. */
public final class EmbersEdgesTest {
    private static final Checks CHECKS = new Checks();
    private static final int LEAST = Integer.MIN_VALUE;
    private static final int MOST = Integer.MAX_VALUE;

    public static void main(String[] args) {
        newObjectHasTwoHearths();
        newObjectsShareNothing();
        lightHeat();
        lightFortieth();
        lightNamesTheFirst();
        fadeOfNoEmber();
        fadeOfOneGoneOut();
        fadeHeat();
        fadeByTheLowOfItsOwnHearth();
        fadeNamesTheFirst();
        fadeIntoTheSameBucket();
        fadeIsNoMove();
        quenchOfNoEmber();
        quenchOfOneGoneOut();
        quenchTellsItsBucket();
        quenchIsNoRaking();
        rakeHearth();
        rakeWithoutEmbers();
        rakeTillItHasNone();
        rakeCountsForItsHearth();
        CHECKS.end("EmbersEdgesTest");
    }

    // Promise 1: "Creates two hearths without embers."
    private static void newObjectHasTwoHearths() {
        RadixHearth x = new RadixHearth();
        CHECKS.countDue(x, 0, 0, 0, 0, 0);
        for (int hearth = 0; hearth < 2; hearth++) {
            CHECKS.aboutDue(x, hearth, 0, 0, -1, -1, 0, -1);
            for (int bucket = 0; bucket <= 10; bucket++) {
                CHECKS.bucketDue(x, hearth, bucket);
            }
            CHECKS.due("moves(" + hearth + ", 0)", x.moves(hearth, 0), 0);
            CHECKS.due("highest(" + hearth + ")", x.highest(hearth), 1023);
            CHECKS.due("advise(" + hearth + ")", x.advise(hearth), -1);
        }
        CHECKS.due("mean()", x.mean(), 0.0);
        Twins twins = new Twins(CHECKS, RadixHearth::new);
        twins.outside("told(0, 0)", y -> y.told(0, 0));
        twins.outside("fade(0, 0)", y -> y.fade(0, 0));
        twins.outside("quench(0)", y -> y.quench(0));
    }

    private static void newObjectsShareNothing() {
        RadixHearth used = new RadixHearth();
        RadixHearth before = new RadixHearth();
        String fresh = Snapshot.of(new RadixHearth());
        Checks.light(used, 0, 7, 9, 9);
        used.rake(0);
        used.quench(1);
        used.pour(0);
        used.raise(0, 50);
        CHECKS.due("an object made before", Snapshot.of(before), fresh);
        CHECKS.due("an object made after", Snapshot.of(new RadixHearth()), fresh);
    }

    // Promise 2: "if heat is not the low of the hearth to 1023".
    private static void lightHeat() {
        Twins twins = new Twins(CHECKS, EmbersEdgesTest::lows20And0);
        twins.argument("light(0, 19)", x -> x.light(0, 19));
        twins.argument("light(0, 1024)", x -> x.light(0, 1024));
        twins.argument("light(1, -1)", x -> x.light(1, -1));
        twins.argument("light(1, 1024)", x -> x.light(1, 1024));
        twins.argument("light(0, least)", x -> x.light(0, LEAST));
        twins.argument("light(1, most)", x -> x.light(1, MOST));
        RadixHearth x = lows20And0();
        CHECKS.due("light(0, 20)", x.light(0, 20), 2);
        CHECKS.due("light(0, 1023)", x.light(0, 1023), 3);
        CHECKS.due("light(1, 0)", x.light(1, 0), 4);
        CHECKS.due("light(1, 1023)", x.light(1, 1023), 5);
        CHECKS.bucketDue(x, 0, 0, 2);
        CHECKS.bucketDue(x, 0, 10, 3);
        CHECKS.bucketDue(x, 1, 0, 4);
        CHECKS.bucketDue(x, 1, 10, 5);
    }

    private static RadixHearth lows20And0() {
        RadixHearth x = new RadixHearth();
        x.raise(0, 20);
        x.light(0, 30);
        x.light(1, 10);
        return x;
    }

    // "if 40 were lit": the fortieth is lit, the next one is not, also when some have gone out.
    private static void lightFortieth() {
        RadixHearth x = many(39);
        CHECKS.due("light of the fortieth", x.light(1, 7), 39);
        CHECKS.due("count(0)", x.count(0), 40);
        CHECKS.bucketDue(x, 1, 3, 39);
        Twins twins = new Twins(CHECKS, () -> many(40));
        twins.state("light(0, 7) after 40", y -> y.light(0, 7));
        twins.state("light(1, 7) after 40", y -> y.light(1, 7));
        new Twins(CHECKS, EmbersEdgesTest::fortyAndOneOut).state("light(0, 7), one out", y -> y.light(0, 7));
    }

    private static RadixHearth fortyAndOneOut() {
        RadixHearth x = many(40);
        x.quench(12);
        return x;
    }

    private static RadixHearth many(int embers) {
        RadixHearth x = new RadixHearth();
        for (int ember = 0; ember < embers; ember++) {
            x.light(0, 5 + ember);
        }
        return x;
    }

    private static void lightNamesTheFirst() {
        Twins twins = new Twins(CHECKS, EmbersEdgesTest::fortyAndOneOut);
        twins.outside("light(2, 7) after 40", x -> x.light(2, 7));
        twins.outside("light(-1, 1024) after 40", x -> x.light(-1, 1024));
        twins.argument("light(0, 1024) after 40", x -> x.light(0, 1024));
        twins.argument("light(1, -1) after 40", x -> x.light(1, -1));
        new Twins(CHECKS, RadixHearth::new).outside("light(2, -1)", x -> x.light(2, -1));
    }

    // Promise 3: "if there is no such ember".
    private static void fadeOfNoEmber() {
        Twins twins = new Twins(CHECKS, () -> many(3));
        twins.outside("fade(-1, 0)", x -> x.fade(-1, 0));
        twins.outside("fade(3, 0)", x -> x.fade(3, 0));
        twins.outside("fade(40, 0)", x -> x.fade(40, 0));
        twins.outside("fade(least, 0)", x -> x.fade(LEAST, 0));
        twins.outside("fade(most, 0)", x -> x.fade(MOST, 0));
        CHECKS.due("fade(0, 4)", many(3).fade(0, 4), 3);
        CHECKS.due("fade(2, 3)", many(3).fade(2, 3), 2);
        CHECKS.due("fade(39, 0)", many(40).fade(39, 0), 0);
        new Twins(CHECKS, () -> many(40)).outside("fade(40, 0) after 40", x -> x.fade(40, 0));
    }

    // "if it has gone out", by raking or by quench().
    private static void fadeOfOneGoneOut() {
        Twins twins = new Twins(CHECKS, EmbersEdgesTest::oneRakedOneQuenched);
        twins.state("fade(0, 7), raked", x -> x.fade(0, 7));
        twins.state("fade(1, 7), quenched", x -> x.fade(1, 7));
        CHECKS.due("fade(2, 6)", oneRakedOneQuenched().fade(2, 6), 2);
    }

    // The low of the hearth 0 is 5 then, the heat of the ember 2 is 8.
    private static RadixHearth oneRakedOneQuenched() {
        RadixHearth x = new RadixHearth();
        Checks.light(x, 0, 5, 9, 8);
        x.rake(0);
        x.quench(1);
        return x;
    }

    // "if heat is not the low of its hearth to 1 less than its heat".
    private static void fadeHeat() {
        Twins twins = new Twins(CHECKS, EmbersEdgesTest::oneRakedOneQuenched);
        twins.argument("fade(2, 4)", x -> x.fade(2, 4));
        twins.argument("fade(2, 8)", x -> x.fade(2, 8));
        twins.argument("fade(2, 9)", x -> x.fade(2, 9));
        twins.argument("fade(2, -1)", x -> x.fade(2, -1));
        twins.argument("fade(2, 1024)", x -> x.fade(2, 1024));
        twins.argument("fade(2, least)", x -> x.fade(2, LEAST));
        twins.argument("fade(2, most)", x -> x.fade(2, MOST));
        RadixHearth x = oneRakedOneQuenched();
        CHECKS.due("fade(2, 7)", x.fade(2, 7), 2);
        CHECKS.due("fade(2, 5)", x.fade(2, 5), 0);
        CHECKS.toldDue(x, 2, 5, 0, 0, 0, 0);
        new Twins(CHECKS, EmbersEdgesTest::fadedToTheLow).argument("fade(2, 5) at the low", y -> y.fade(2, 5));
        new Twins(CHECKS, EmbersEdgesTest::fadedToTheLow).argument("fade(2, 4) at the low", y -> y.fade(2, 4));
    }

    private static RadixHearth fadedToTheLow() {
        RadixHearth x = oneRakedOneQuenched();
        x.fade(2, 5);
        return x;
    }

    // "the low of its hearth": that in which it lies now, also after pour().
    private static void fadeByTheLowOfItsOwnHearth() {
        Twins twins = new Twins(CHECKS, EmbersEdgesTest::pouredIntoLow10);
        twins.argument("fade(0, 9)", x -> x.fade(0, 9));
        RadixHearth x = pouredIntoLow10();
        CHECKS.due("fade(0, 10)", x.fade(0, 10), 0);
        CHECKS.due("fade(1, 0) in the other one", x.fade(1, 0), 0);
        CHECKS.bucketDue(x, 1, 0, 0);
        CHECKS.bucketDue(x, 0, 0, 1);
    }

    private static RadixHearth pouredIntoLow10() {
        RadixHearth x = new RadixHearth();
        x.raise(1, 10);
        x.light(0, 12);
        x.pour(0);
        x.light(0, 12);
        return x;
    }

    // One that has gone out is refused as such, whatever the heat is.
    private static void fadeNamesTheFirst() {
        Twins twins = new Twins(CHECKS, EmbersEdgesTest::oneRakedOneQuenched);
        for (int ember = 0; ember < 2; ember++) {
            int out = ember;
            for (int heat : new int[] {-1, 4, 9, 1024}) {
                twins.state("fade(" + out + ", " + heat + "), gone out", x -> x.fade(out, heat));
            }
        }
        twins.outside("fade(3, 1024)", x -> x.fade(3, 1024));
        twins.outside("fade(-1, -1)", x -> x.fade(-1, -1));
    }

    // "to the end of a bucket, also of the same one".
    private static void fadeIntoTheSameBucket() {
        RadixHearth x = new RadixHearth();
        Checks.light(x, 0, 15, 15, 15);
        CHECKS.due("fade(0, 14)", x.fade(0, 14), 4);
        CHECKS.bucketDue(x, 0, 4, 1, 2, 0);
        CHECKS.due("fade(0, 13), the last one", x.fade(0, 13), 4);
        CHECKS.bucketDue(x, 0, 4, 1, 2, 0);
        CHECKS.due("fade(2, 8), the middle one", x.fade(2, 8), 4);
        CHECKS.bucketDue(x, 0, 4, 1, 0, 2);
        CHECKS.due("fade(1, 7), out of it", x.fade(1, 7), 3);
        CHECKS.bucketDue(x, 0, 4, 0, 2);
        CHECKS.bucketDue(x, 0, 3, 1);
    }

    // "that is no move".
    private static void fadeIsNoMove() {
        RadixHearth x = new RadixHearth();
        Checks.light(x, 0, 15, 15);
        x.fade(0, 14);
        x.fade(1, 0);
        CHECKS.toldDue(x, 0, 14, 0, 4, 0, 0);
        CHECKS.toldDue(x, 1, 0, 0, 0, 0, 0);
        CHECKS.countDue(x, 2, 2, 0, 0, 0);
    }

    // Promise 4: "if there is no such ember".
    private static void quenchOfNoEmber() {
        Twins twins = new Twins(CHECKS, () -> many(3));
        for (int ember : new int[] {-1, 3, 39, 40, LEAST, MOST}) {
            twins.outside("quench(" + ember + ")", x -> x.quench(ember));
        }
        CHECKS.due("quench(0)", many(3).quench(0), 3);
        CHECKS.due("quench(2)", many(3).quench(2), 3);
        CHECKS.due("quench(39)", many(40).quench(39), 6);
        new Twins(CHECKS, () -> many(40)).outside("quench(40) after 40", x -> x.quench(40));
    }

    // "if it has gone out", by raking or by quench().
    private static void quenchOfOneGoneOut() {
        Twins twins = new Twins(CHECKS, EmbersEdgesTest::oneRakedOneQuenched);
        twins.state("quench(0), raked", x -> x.quench(0));
        twins.state("quench(1), quenched", x -> x.quench(1));
        RadixHearth x = oneRakedOneQuenched();
        CHECKS.due("quench(2)", x.quench(2), 4);
        CHECKS.countDue(x, 3, 0, 1, 1, 2);
    }

    // "Returns the bucket in which it lay", from 0 to 10.
    private static void quenchTellsItsBucket() {
        for (int bucket = 0; bucket <= 10; bucket++) {
            RadixHearth x = new RadixHearth();
            int heat = bucket == 0 ? 0 : 1 << (bucket - 1);
            Checks.light(x, 1, heat, heat, heat);
            CHECKS.due("quench(1) in bucket " + bucket, x.quench(1), bucket);
            CHECKS.bucketDue(x, 1, bucket, 0, 2);
            CHECKS.due("quench(0) in bucket " + bucket, x.quench(0), bucket);
            CHECKS.due("quench(2) in bucket " + bucket, x.quench(2), bucket);
            CHECKS.aboutDue(x, 1, 0, 0, -1, -1, 0, -1);
        }
    }

    // "it is not raked"; and the low stays.
    private static void quenchIsNoRaking() {
        RadixHearth x = new RadixHearth();
        Checks.light(x, 0, 5, 9);
        x.quench(0);
        CHECKS.toldDue(x, 0, 5, -1, -1, 0, 0);
        CHECKS.countDue(x, 2, 1, 0, 0, 1);
        CHECKS.aboutDue(x, 0, 1, 0, 4, 4, 0, 9);
    }

    // Promise 5: "if hearth is not 0 to 1", also if there are no embers at all.
    private static void rakeHearth() {
        for (int embers = 0; embers < 3; embers++) {
            int lit = embers;
            Twins twins = new Twins(CHECKS, () -> many(lit));
            for (int hearth : new int[] {-1, 2, LEAST, MOST}) {
                twins.outside("rake(" + hearth + ") with " + lit, x -> x.rake(hearth));
            }
        }
    }

    // "if it has none": never any, all raked, all put out, all poured away.
    private static void rakeWithoutEmbers() {
        new Twins(CHECKS, RadixHearth::new).state("rake(0), new", x -> x.rake(0));
        new Twins(CHECKS, RadixHearth::new).state("rake(1), new", x -> x.rake(1));
        new Twins(CHECKS, () -> many(3)).state("rake(1), the other one has some", x -> x.rake(1));
        new Twins(CHECKS, EmbersEdgesTest::allRaked).state("rake(0), all raked", x -> x.rake(0));
        new Twins(CHECKS, EmbersEdgesTest::allQuenched).state("rake(0), all put out", x -> x.rake(0));
        new Twins(CHECKS, EmbersEdgesTest::allPoured).state("rake(0), all poured", x -> x.rake(0));
        CHECKS.due("rake(1) of those that were poured", allPoured().rake(1), 0);
    }

    private static RadixHearth allRaked() {
        RadixHearth x = many(2);
        x.rake(0);
        x.rake(0);
        return x;
    }

    private static RadixHearth allQuenched() {
        RadixHearth x = many(2);
        x.quench(0);
        x.quench(1);
        return x;
    }

    private static RadixHearth allPoured() {
        RadixHearth x = many(2);
        x.pour(0);
        return x;
    }

    private static void rakeTillItHasNone() {
        RadixHearth x = many(40);
        for (int ember = 0; ember < 40; ember++) {
            CHECKS.due("rake(0) of ember " + ember, x.rake(0), ember);
        }
        CHECKS.aboutDue(x, 0, 0, 44, -1, -1, 40, -1);
        CHECKS.countDue(x, 40, 0, x.count(2), 40, 0);
    }

    private static void rakeCountsForItsHearth() {
        RadixHearth x = new RadixHearth();
        x.light(0, 5);
        x.light(1, 6);
        CHECKS.due("rake(1)", x.rake(1), 1);
        CHECKS.aboutDue(x, 0, 1, 0, 3, 3, 0, 5);
        CHECKS.aboutDue(x, 1, 0, 6, -1, -1, 1, -1);
        CHECKS.toldDue(x, 0, 5, 0, 3, 0, 0);
        CHECKS.toldDue(x, 1, 6, -1, -1, 1, 1);
    }
}
