/** Promises 6 to 13: raise, pour, many, lies, bucketOf, about, told, count. */
public final class HearthsTest {
    private static final Checks CHECKS = new Checks();

    public static void main(String[] args) {
        promise06Raise();
        promise06RaiseRefuses();
        promise07Pour();
        promise07PourOfNothing();
        promise07PourRefuses();
        promise08Many();
        promise09Lies();
        promise10BucketOf();
        promise11About();
        promise12Told();
        promise13Count();
        CHECKS.end("HearthsTest");
    }

    private static void promise06Raise() {
        RadixHearth x = new RadixHearth();
        Checks.light(x, 0, 900, 21, 700, 17, 30, 20, 17);
        CHECKS.due("raise(0, 0)", x.raise(0, 0), 0);
        CHECKS.countDue(x, 7, 7, 0, 0, 0);
        CHECKS.due("raise(0, 16)", x.raise(0, 16), 7);
        CHECKS.bucketDue(x, 0, 1, 3, 6);
        CHECKS.bucketDue(x, 0, 3, 1, 5);
        CHECKS.bucketDue(x, 0, 4, 4);
        CHECKS.bucketDue(x, 0, 10, 0, 2);
        CHECKS.toldDue(x, 0, 900, 0, 10, 1, 0);
        CHECKS.due("raise(0, 17)", x.raise(0, 17), 7);
        CHECKS.bucketDue(x, 0, 0, 3, 6);
        CHECKS.due("raise(0, 17) again", x.raise(0, 17), 0);
        CHECKS.countDue(x, 7, 7, 14, 0, 0);
        CHECKS.aboutDue(x, 0, 7, 17, 0, 10, 0, 900);
        CHECKS.due("raise(1, 1023)", x.raise(1, 1023), 0);
        CHECKS.aboutDue(x, 1, 0, 1023, -1, -1, 0, -1);
        raiseKeepsTheOrder();
    }

    // An ember whose bucket stays the same is moved too; those that come into one bucket keep their order.
    private static void raiseKeepsTheOrder() {
        RadixHearth x = new RadixHearth();
        x.raise(0, 12);
        Checks.light(x, 0, 20, 14, 23, 15, 18);
        x.quench(1);
        x.quench(3);
        x.light(0, 60);
        x.light(0, 17);
        CHECKS.due("raise(0, 17)", x.raise(0, 17), 5);
        CHECKS.bucketDue(x, 0, 0, 6);
        CHECKS.bucketDue(x, 0, 2, 4);
        CHECKS.bucketDue(x, 0, 3, 0, 2);
        CHECKS.bucketDue(x, 0, 6, 5);
    }

    private static void promise06RaiseRefuses() {
        RadixHearth x = new RadixHearth();
        CHECKS.refusedOutside(x, "raise(2, -1)", () -> x.raise(2, -1));
        CHECKS.refusedOutside(x, "raise(-1, 0)", () -> x.raise(-1, 0));
        CHECKS.refusedArgument(x, "raise(0, -1)", () -> x.raise(0, -1));
        CHECKS.refusedArgument(x, "raise(0, 1024)", () -> x.raise(0, 1024));
        Checks.light(x, 0, 90, 31);
        CHECKS.refusedArgument(x, "raise(0, 32)", () -> x.raise(0, 32));
        CHECKS.due("raise(0, 31)", x.raise(0, 31), 2);
        CHECKS.refusedArgument(x, "raise(0, 30)", () -> x.raise(0, 30));
        x.raise(1, 500);
        CHECKS.refusedArgument(x, "raise(1, 499)", () -> x.raise(1, 499));
    }

    private static void promise07Pour() {
        RadixHearth x = new RadixHearth();
        Checks.light(x, 0, 40, 16, 41, 17, 16, 1000);
        x.raise(0, 16);
        x.raise(1, 16);
        Checks.light(x, 1, 44, 16);
        x.rake(1);
        CHECKS.due("pour(0)", x.pour(0), 6);
        CHECKS.aboutDue(x, 0, 0, 0, -1, -1, 0, -1);
        CHECKS.aboutDue(x, 1, 7, 16, 0, 10, 1, 1000);
        CHECKS.bucketDue(x, 1, 0, 1, 4);
        CHECKS.bucketDue(x, 1, 1, 3);
        CHECKS.bucketDue(x, 1, 6, 6, 0, 2);
        CHECKS.toldDue(x, 0, 40, 1, 6, 2, 0);
        CHECKS.toldDue(x, 6, 44, 1, 6, 0, 0);
        CHECKS.countDue(x, 8, 7, 12, 1, 0);
        CHECKS.due("pour(1)", x.pour(1), 7);
        CHECKS.bucketDue(x, 0, 5, 1, 4, 3);
        CHECKS.bucketDue(x, 0, 6, 6, 0, 2);
        CHECKS.aboutDue(x, 1, 0, 0, -1, -1, 1, -1);
        CHECKS.due("rake(0) after pour(1)", x.rake(0), 1);
    }

    private static void promise07PourOfNothing() {
        RadixHearth x = new RadixHearth();
        x.raise(0, 700);
        x.raise(1, 900);
        CHECKS.due("pour(0) without embers", x.pour(0), 0);
        CHECKS.due("low of the poured one", x.about(0, 1), 0);
        CHECKS.due("low of the other one", x.about(1, 1), 900);
    }

    private static void promise07PourRefuses() {
        RadixHearth x = new RadixHearth();
        CHECKS.refusedOutside(x, "pour(-1)", () -> x.pour(-1));
        CHECKS.refusedOutside(x, "pour(2)", () -> x.pour(2));
        x.raise(0, 64);
        Checks.light(x, 1, 900, 63);
        CHECKS.refusedState(x, "pour(1)", () -> x.pour(1));
        x.quench(1);
        x.light(1, 64);
        CHECKS.due("pour(1)", x.pour(1), 2);
    }

    private static void promise08Many() {
        RadixHearth x = new RadixHearth();
        Checks.light(x, 0, 2, 3, 2, 0);
        Checks.light(x, 1, 1023);
        CHECKS.due("many(0, 2)", x.many(0, 2), 3);
        CHECKS.due("many(0, 0)", x.many(0, 0), 1);
        CHECKS.due("many(0, 1)", x.many(0, 1), 0);
        CHECKS.due("many(1, 10)", x.many(1, 10), 1);
        CHECKS.due("many(0, 10)", x.many(0, 10), 0);
        CHECKS.refusedOutside(x, "many(-1, 0)", () -> x.many(-1, 0));
        CHECKS.refusedOutside(x, "many(2, 0)", () -> x.many(2, 0));
        CHECKS.refusedOutside(x, "many(0, -1)", () -> x.many(0, -1));
        CHECKS.refusedOutside(x, "many(0, 11)", () -> x.many(0, 11));
    }

    private static void promise09Lies() {
        RadixHearth x = new RadixHearth();
        Checks.light(x, 0, 2, 3, 9, 2);
        Checks.light(x, 1, 3);
        CHECKS.due("lies(0, 2, 0)", x.lies(0, 2, 0), 0);
        CHECKS.due("lies(0, 2, 1)", x.lies(0, 2, 1), 1);
        CHECKS.due("lies(0, 2, 2)", x.lies(0, 2, 2), 3);
        CHECKS.due("lies(0, 4, 0)", x.lies(0, 4, 0), 2);
        CHECKS.due("lies(1, 2, 0)", x.lies(1, 2, 0), 4);
        CHECKS.refusedOutside(x, "lies(-1, 2, 0)", () -> x.lies(-1, 2, 0));
        CHECKS.refusedOutside(x, "lies(2, 2, 0)", () -> x.lies(2, 2, 0));
        CHECKS.refusedOutside(x, "lies(0, -1, 0)", () -> x.lies(0, -1, 0));
        CHECKS.refusedOutside(x, "lies(0, 11, 0)", () -> x.lies(0, 11, 0));
        CHECKS.refusedOutside(x, "lies(0, 2, -1)", () -> x.lies(0, 2, -1));
        CHECKS.refusedOutside(x, "lies(0, 2, 3)", () -> x.lies(0, 2, 3));
        CHECKS.refusedOutside(x, "lies(0, 0, 0)", () -> x.lies(0, 0, 0));
        CHECKS.refusedOutside(x, "lies(0, 3, 0)", () -> x.lies(0, 3, 0));
    }

    private static void promise10BucketOf() {
        RadixHearth x = new RadixHearth();
        int[] heats = {0, 1, 2, 3, 4, 7, 8, 511, 512, 1023};
        int[] buckets = {0, 1, 2, 2, 3, 3, 4, 9, 10, 10};
        for (int at = 0; at < heats.length; at++) {
            CHECKS.due("bucketOf(0, " + heats[at] + ")", x.bucketOf(0, heats[at]), buckets[at]);
        }
        x.raise(1, 100);
        CHECKS.due("bucketOf(1, 100)", x.bucketOf(1, 100), 0);
        CHECKS.due("bucketOf(1, 101)", x.bucketOf(1, 101), 1);
        CHECKS.due("bucketOf(1, 103)", x.bucketOf(1, 103), 2);
        CHECKS.due("bucketOf(1, 104)", x.bucketOf(1, 104), 4);
        CHECKS.due("bucketOf(1, 128)", x.bucketOf(1, 128), 8);
        CHECKS.refusedOutside(x, "bucketOf(-1, 0)", () -> x.bucketOf(-1, 0));
        CHECKS.refusedOutside(x, "bucketOf(2, -1)", () -> x.bucketOf(2, -1));
        CHECKS.refusedArgument(x, "bucketOf(0, -1)", () -> x.bucketOf(0, -1));
        CHECKS.refusedArgument(x, "bucketOf(0, 1024)", () -> x.bucketOf(0, 1024));
        CHECKS.refusedArgument(x, "bucketOf(1, 99)", () -> x.bucketOf(1, 99));
        Checks.light(x, 0, new int[40]);
        CHECKS.due("bucketOf(0, 9) after 40", x.bucketOf(0, 9), 4);
    }

    private static void promise11About() {
        RadixHearth x = new RadixHearth();
        CHECKS.aboutDue(x, 0, 0, 0, -1, -1, 0, -1);
        RadixHearth lowest = new RadixHearth();
        lowest.raise(1, 30);
        lowest.light(1, 30);
        CHECKS.aboutDue(lowest, 1, 1, 30, 0, 0, 0, 30);
        lowest.light(1, 31);
        CHECKS.aboutDue(lowest, 1, 2, 30, 0, 1, 0, 31);
        Checks.light(x, 0, 600, 1, 900, 70, 0, 899);
        CHECKS.aboutDue(x, 0, 6, 0, 0, 10, 0, 900);
        CHECKS.aboutDue(x, 1, 0, 0, -1, -1, 0, -1);
        x.quench(2);
        x.rake(0);
        x.rake(0);
        x.rake(0);
        CHECKS.aboutDue(x, 0, 2, 70, 10, 10, 3, 899);
        x.pour(0);
        CHECKS.aboutDue(x, 0, 0, 0, -1, -1, 3, -1);
        CHECKS.aboutDue(x, 1, 2, 0, 10, 10, 0, 899);
        CHECKS.refusedOutside(x, "about(-1, 0)", () -> x.about(-1, 0));
        CHECKS.refusedOutside(x, "about(2, 0)", () -> x.about(2, 0));
        CHECKS.refusedOutside(x, "about(0, -1)", () -> x.about(0, -1));
        CHECKS.refusedOutside(x, "about(0, 6)", () -> x.about(0, 6));
    }

    private static void promise12Told() {
        RadixHearth x = new RadixHearth();
        Checks.light(x, 0, 6, 5);
        Checks.light(x, 1, 0, 800);
        CHECKS.toldDue(x, 0, 6, 0, 3, 0, 0);
        CHECKS.toldDue(x, 2, 0, 1, 0, 0, 0);
        x.rake(0);
        CHECKS.toldDue(x, 1, 5, -1, -1, 1, 1);
        CHECKS.toldDue(x, 0, 6, 0, 2, 1, 0);
        x.rake(1);
        x.pour(1);
        CHECKS.refusedOutside(x, "told(4, 0)", () -> x.told(4, 0));
        CHECKS.toldDue(x, 3, 800, 0, 10, 1, 0);
        x.fade(3, 700);
        x.quench(3);
        CHECKS.toldDue(x, 3, 700, -1, -1, 1, 0);
        CHECKS.refusedOutside(x, "told(-1, 0)", () -> x.told(-1, 0));
        CHECKS.refusedOutside(x, "told(39, 0)", () -> x.told(39, 0));
        CHECKS.refusedOutside(x, "told(40, 0)", () -> x.told(40, 0));
        CHECKS.refusedOutside(x, "told(0, -1)", () -> x.told(0, -1));
        CHECKS.refusedOutside(x, "told(0, 5)", () -> x.told(0, 5));
    }

    private static void promise13Count() {
        RadixHearth x = new RadixHearth();
        Checks.light(x, 0, 6, 5, 4);
        Checks.light(x, 1, 0, 800);
        CHECKS.countDue(x, 5, 5, 0, 0, 0);
        x.rake(0);
        CHECKS.countDue(x, 5, 4, 3, 1, 0);
        x.rake(1);
        x.quench(4);
        CHECKS.countDue(x, 5, 2, 3, 2, 1);
        x.pour(0);
        CHECKS.countDue(x, 5, 2, 5, 2, 1);
        x.raise(1, 5);
        CHECKS.countDue(x, 5, 2, 7, 2, 1);
        x.fade(0, 5);
        CHECKS.countDue(x, 5, 2, 7, 2, 1);
        CHECKS.refusedOutside(x, "count(-1)", () -> x.count(-1));
        CHECKS.refusedOutside(x, "count(5)", () -> x.count(5));
    }
}
