/** The boundaries that promises 6 to 13 name; each test bears the sentence that it holds to. */
public final class HearthsEdgesTest {
    private static final Checks CHECKS = new Checks();
    private static final int LEAST = Integer.MIN_VALUE;
    private static final int MOST = Integer.MAX_VALUE;
    private static final int[] POWERS = {1, 2, 4, 8, 16, 32, 64, 128, 256, 512};

    public static void main(String[] args) {
        raiseLessThanTheLow();
        raiseMoreThan1023();
        raiseMoreThanAnEmber();
        raiseNamesTheFirst();
        raiseToTheSameLow();
        raiseWithoutEmbers();
        raiseTakesTheBuckets1To10();
        raiseKeepsTheOrderInABucket();
        pourHearth();
        pourOfOneTooCold();
        pourOfAsColdAsTheLow();
        pourOfOnesGoneOut();
        pourBucketByBucket();
        pourWithoutEmbers();
        pourLeavesTheLow0();
        pourOfForty();
        manyBounds();
        liesPlace();
        liesAfterOneLeft();
        bucketOfHeat();
        bucketOfNamesTheFirst();
        aboutWhat();
        aboutFirstAndLast();
        aboutRakesStay();
        aboutHottest();
        toldEmber();
        toldWhat();
        countWhat();
        countInAll();
        askingChangesNothing();
        CHECKS.end("HearthsEdgesTest");
    }

    // Promise 6: "if low is less than the low".
    private static void raiseLessThanTheLow() {
        Twins twins = new Twins(CHECKS, HearthsEdgesTest::lows100And200);
        twins.argument("raise(0, 99)", x -> x.raise(0, 99));
        twins.argument("raise(1, 199), without embers", x -> x.raise(1, 199));
        twins.argument("raise(0, -1)", x -> x.raise(0, -1));
        twins.argument("raise(0, least)", x -> x.raise(0, LEAST));
        twins.argument("raise(1, least)", x -> x.raise(1, LEAST));
        new Twins(CHECKS, RadixHearth::new).argument("raise(0, -1), new", x -> x.raise(0, -1));
        twins.answers("raise(0, 100)", 0, x -> x.raise(0, 100));
        twins.answers("raise(1, 200)", 0, x -> x.raise(1, 200));
        RadixHearth x = lows100And200();
        CHECKS.due("raise(0, 101)", x.raise(0, 101), 3);
        CHECKS.due("raise(1, 201)", x.raise(1, 201), 0);
        CHECKS.due("about(0, 1)", x.about(0, 1), 101);
        CHECKS.due("about(1, 1)", x.about(1, 1), 201);
    }

    private static RadixHearth lows100And200() {
        RadixHearth x = new RadixHearth();
        x.raise(0, 100);
        x.raise(1, 200);
        Checks.light(x, 0, 700, 150, 130);
        return x;
    }

    // "or more than 1023".
    private static void raiseMoreThan1023() {
        Twins without = new Twins(CHECKS, RadixHearth::new);
        without.argument("raise(0, 1024), without embers", x -> x.raise(0, 1024));
        without.argument("raise(1, most), without embers", x -> x.raise(1, MOST));
        CHECKS.due("raise(1, 1023), without embers", new RadixHearth().raise(1, 1023), 0);
        Twins with = new Twins(CHECKS, () -> lit(1023));
        with.argument("raise(0, 1024)", x -> x.raise(0, 1024));
        with.argument("raise(0, most)", x -> x.raise(0, MOST));
        RadixHearth x = lit(1023);
        CHECKS.due("raise(0, 1023)", x.raise(0, 1023), 1);
        CHECKS.bucketDue(x, 0, 0, 0);
        new Twins(CHECKS, HearthsEdgesTest::lowOf1023).argument("raise(0, 1024) at 1023", y -> y.raise(0, 1024));
        new Twins(CHECKS, HearthsEdgesTest::lowOf1023).answers("raise(0, 1023) at 1023", 0, y -> y.raise(0, 1023));
    }

    private static RadixHearth lowOf1023() {
        RadixHearth x = lit(1023);
        x.raise(0, 1023);
        return x;
    }

    // "or than the heat of one of its embers", wherever this one lies.
    private static void raiseMoreThanAnEmber() {
        int[][] rows = {{40, 900, 41}, {41, 40, 900}, {900, 41, 40}, {40}, {40, 40}};
        for (int[] heats : rows) {
            new Twins(CHECKS, () -> lit(heats)).argument("raise(0, 41)", x -> x.raise(0, 41));
            RadixHearth x = lit(heats);
            CHECKS.due("raise(0, 40)", x.raise(0, 40), heats.length);
            CHECKS.due("about(0, 1)", x.about(0, 1), 40);
        }
        new Twins(CHECKS, () -> lit(0, 900)).argument("raise(0, 1), one at the low", x -> x.raise(0, 1));
        RadixHearth x = lit(40, 900, 41);
        CHECKS.due("raise(1, 1000), the embers are in the hearth 0", x.raise(1, 1000), 0);
        x.quench(0);
        CHECKS.due("raise(0, 41), 40 has gone out", x.raise(0, 41), 2);
        x.rake(0);
        CHECKS.due("raise(0, 900), 41 is raked", x.raise(0, 900), 1);
    }

    private static void raiseNamesTheFirst() {
        Twins twins = new Twins(CHECKS, HearthsEdgesTest::lows100And200);
        for (int hearth : new int[] {-1, 2, LEAST, MOST}) {
            twins.outside("raise(" + hearth + ", -1)", x -> x.raise(hearth, -1));
            twins.outside("raise(" + hearth + ", 1024)", x -> x.raise(hearth, 1024));
            twins.outside("raise(" + hearth + ", 500)", x -> x.raise(hearth, 500));
        }
    }

    // "With the low that it has nothing is moved".
    private static void raiseToTheSameLow() {
        new Twins(CHECKS, () -> lit(0, 9, 8, 8, 700)).answers("raise(0, 0)", 0, x -> x.raise(0, 0));
        new Twins(CHECKS, RadixHearth::new).answers("raise(1, 0)", 0, x -> x.raise(1, 0));
    }

    // "without embers the low rises all the same".
    private static void raiseWithoutEmbers() {
        RadixHearth x = new RadixHearth();
        CHECKS.due("raise(0, 1)", x.raise(0, 1), 0);
        CHECKS.aboutDue(x, 0, 0, 1, -1, -1, 0, -1);
        CHECKS.due("raise(0, 1023)", x.raise(0, 1023), 0);
        CHECKS.aboutDue(x, 0, 0, 1023, -1, -1, 0, -1);
        CHECKS.aboutDue(x, 1, 0, 0, -1, -1, 0, -1);
        CHECKS.countDue(x, 0, 0, 0, 0, 0);
        RadixHearth raked = lit(5);
        raked.rake(0);
        CHECKS.due("raise(0, 6), all raked", raked.raise(0, 6), 0);
        CHECKS.due("about(0, 1)", raked.about(0, 1), 6);
    }

    // "the embers of the buckets 1 to 10 ... are all taken out, and put into it anew".
    private static void raiseTakesTheBuckets1To10() {
        RadixHearth x = lit(POWERS);
        CHECKS.due("raise(0, 1)", x.raise(0, 1), 10);
        CHECKS.bucketDue(x, 0, 0, 0);
        CHECKS.bucketDue(x, 0, 1);
        for (int ember = 0; ember < 10; ember++) {
            CHECKS.due("moves of ember " + ember, x.told(ember, 3), 1);
            CHECKS.due("bucket of ember " + ember, x.told(ember, 2), ember == 0 ? 0 : ember + 1);
        }
        CHECKS.due("moves", x.count(2), 10);
        RadixHearth hot = new RadixHearth();
        Checks.light(hot, 1, 1023, 512, 1023);
        CHECKS.due("raise(1, 512)", hot.raise(1, 512), 3);
        CHECKS.bucketDue(hot, 1, 0, 1);
        CHECKS.bucketDue(hot, 1, 9, 0, 2);
        CHECKS.bucketDue(hot, 1, 10);
    }

    // "in the order in which they lay": of the heats 15 to 8 those that stay together keep it.
    private static void raiseKeepsTheOrderInABucket() {
        RadixHearth x = lit(11, 15, 10, 13, 11, 12, 14);
        CHECKS.due("raise(0, 8)", x.raise(0, 8), 7);
        CHECKS.bucketDue(x, 0, 2, 0, 2, 4);
        CHECKS.bucketDue(x, 0, 3, 1, 3, 5, 6);
        CHECKS.bucketDue(x, 0, 4);
    }

    // Promise 7: "if hearth is not 0 to 1", also where an ember is too cold.
    private static void pourHearth() {
        Twins twins = new Twins(CHECKS, () -> poured(63, 63));
        for (int hearth : new int[] {-1, 2, LEAST, MOST}) {
            twins.outside("pour(" + hearth + ")", x -> x.pour(hearth));
        }
        CHECKS.due("pour(0) the other way", lit(5, 7).pour(0), 2);
        CHECKS.due("pour(1)", poured(64, 64).pour(1), 2);
    }

    /** The low of the hearth 0 is 64; in the hearth 1 lie embers of these heats, which may be poured. */
    private static RadixHearth poured(int... heats) {
        RadixHearth x = new RadixHearth();
        x.raise(0, 64);
        x.light(0, 70);
        Checks.light(x, 1, heats);
        return x;
    }

    // "if the heat of one of its embers is less than the low of the other hearth", wherever this one lies.
    private static void pourOfOneTooCold() {
        int[][] rows = {{63}, {0}, {63, 900, 64}, {64, 63, 900}, {900, 64, 63}, {50, 63}, {63, 50}, {0, 900}};
        for (int[] heats : rows) {
            new Twins(CHECKS, () -> poured(heats)).state("pour(1)", x -> x.pour(1));
        }
        new Twins(CHECKS, HearthsEdgesTest::aloneBelow1023).state("pour(0) of 1022", x -> x.pour(0));
        pourOfOneTooColdInABucket();
    }

    // The low of the other hearth is 70; 64 to 127 lie in one bucket, so the cold one may stand anywhere in it.
    private static void pourOfOneTooColdInABucket() {
        int[][] rows = {{69, 90, 127}, {90, 69, 127}, {90, 127, 69}, {70, 69}, {900, 90, 69}};
        for (int[] heats : rows) {
            new Twins(CHECKS, () -> besideLow70(heats)).state("pour(0)", x -> x.pour(0));
        }
        CHECKS.due("pour(0), none too cold", besideLow70(90, 70, 127).pour(0), 3);
    }

    private static RadixHearth besideLow70(int... heats) {
        RadixHearth x = lit(heats);
        x.raise(1, 70);
        return x;
    }

    private static RadixHearth aloneBelow1023() {
        RadixHearth x = lit(1022);
        x.raise(1, 1023);
        return x;
    }

    private static void pourOfAsColdAsTheLow() {
        int[][] rows = {{64}, {64, 900, 64}, {65, 64, 900}, {900, 65, 64}};
        for (int[] heats : rows) {
            RadixHearth x = poured(heats);
            CHECKS.due("pour(1)", x.pour(1), heats.length);
            CHECKS.due("about(0, 0)", x.about(0, 0), heats.length + 1);
            CHECKS.due("about(1, 0)", x.about(1, 0), 0);
        }
        RadixHearth x = poured(64, 900, 64);
        x.pour(1);
        CHECKS.bucketDue(x, 0, 0, 1, 3);
    }

    // One that has gone out is none "of its embers".
    private static void pourOfOnesGoneOut() {
        RadixHearth x = poured(3, 64, 5);
        x.rake(1);
        x.quench(3);
        CHECKS.due("pour(1)", x.pour(1), 1);
        CHECKS.toldDue(x, 1, 3, -1, -1, 1, 1);
        CHECKS.toldDue(x, 2, 64, 0, 0, 1, 0);
        CHECKS.toldDue(x, 3, 5, -1, -1, 0, 0);
    }

    // "bucket by bucket, from 0 on, each from its first ember on, they are put into it; each of these is a move".
    private static void pourBucketByBucket() {
        RadixHearth x = new RadixHearth();
        x.raise(0, 16);
        Checks.light(x, 0, 31, 17, 16, 19, 24, 18, 16);
        Checks.light(x, 1, 20, 300);
        CHECKS.due("pour(0)", x.pour(0), 7);
        CHECKS.bucketDue(x, 1, 5, 7, 2, 6, 1, 3, 5, 0, 4);
        CHECKS.bucketDue(x, 1, 9, 8);
        for (int ember = 0; ember < 9; ember++) {
            CHECKS.due("moves of ember " + ember, x.told(ember, 3), ember < 7 ? 1 : 0);
            CHECKS.due("hearth of ember " + ember, x.told(ember, 1), 1);
        }
        CHECKS.due("moves", x.count(2), 7);
    }

    // Without embers there is none that is too cold; "the low of the hearth that is empty then becomes 0".
    private static void pourWithoutEmbers() {
        RadixHearth x = poured(7, 9);
        x.quench(1);
        x.quench(2);
        x.raise(1, 30);
        CHECKS.due("pour(1) without embers", x.pour(1), 0);
        CHECKS.aboutDue(x, 1, 0, 0, -1, -1, 0, -1);
        CHECKS.aboutDue(x, 0, 1, 64, 3, 3, 0, 70);
        CHECKS.due("moves", x.count(2), 0);
        new Twins(CHECKS, RadixHearth::new).answers("pour(0), new", 0, y -> y.pour(0));
        new Twins(CHECKS, RadixHearth::new).answers("pour(1), new", 0, y -> y.pour(1));
        RadixHearth high = new RadixHearth();
        high.raise(0, 1023);
        CHECKS.due("pour(1) into a low of 1023", high.pour(1), 0);
        CHECKS.due("about(0, 1)", high.about(0, 1), 1023);
        CHECKS.due("pour(0) of a low of 1023", high.pour(0), 0);
        CHECKS.due("about(0, 1)", high.about(0, 1), 0);
    }

    private static void pourLeavesTheLow0() {
        RadixHearth x = new RadixHearth();
        x.raise(0, 300);
        x.raise(1, 200);
        x.light(0, 1023);
        CHECKS.due("pour(0)", x.pour(0), 1);
        CHECKS.aboutDue(x, 0, 0, 0, -1, -1, 0, -1);
        CHECKS.aboutDue(x, 1, 1, 200, 10, 10, 0, 1023);
        CHECKS.due("light(0, 0)", x.light(0, 0), 1);
        new Twins(CHECKS, HearthsEdgesTest::pouredInto200).argument("light(1, 199)", y -> y.light(1, 199));
    }

    private static RadixHearth pouredInto200() {
        RadixHearth x = new RadixHearth();
        x.raise(1, 200);
        x.light(0, 200);
        x.pour(0);
        return x;
    }

    private static void pourOfForty() {
        RadixHearth x = lit(new int[40]);
        CHECKS.due("pour(0)", x.pour(0), 40);
        CHECKS.due("pour(1)", x.pour(1), 40);
        CHECKS.due("many(0, 0)", x.many(0, 0), 40);
        CHECKS.due("lies(0, 0, 39)", x.lies(0, 0, 39), 39);
        CHECKS.due("moves", x.count(2), 80);
        CHECKS.due("moves of ember 39", x.told(39, 3), 2);
    }

    // Promise 8: "if hearth is not 0 to 1, or bucket is not 0 to 10".
    private static void manyBounds() {
        Twins twins = new Twins(CHECKS, () -> lit(0, 0, 512));
        twins.answers("many(0, 0)", 2, x -> x.many(0, 0));
        twins.answers("many(0, 1)", 0, x -> x.many(0, 1));
        twins.answers("many(0, 10)", 1, x -> x.many(0, 10));
        twins.answers("many(1, 0)", 0, x -> x.many(1, 0));
        twins.answers("many(1, 10)", 0, x -> x.many(1, 10));
        for (int wrong : new int[] {-1, 11, LEAST, MOST}) {
            twins.outside("many(0, " + wrong + ")", x -> x.many(0, wrong));
            twins.outside("many(1, " + wrong + ")", x -> x.many(1, wrong));
            twins.outside("many(" + wrong + ", 0)", x -> x.many(wrong, 0));
            twins.outside("many(" + wrong + ", " + wrong + ")", x -> x.many(wrong, wrong));
        }
        twins.outside("many(2, 10)", x -> x.many(2, 10));
    }

    // Promise 9: "bucket is not 0 to 10, or there is no such place".
    private static void liesPlace() {
        Twins twins = new Twins(CHECKS, () -> lit(0, 512, 0, 600, 0));
        twins.answers("lies(0, 0, 0)", 0, x -> x.lies(0, 0, 0));
        twins.answers("lies(0, 0, 2)", 4, x -> x.lies(0, 0, 2));
        twins.outside("lies(0, 0, 3), the next one lies in the bucket 10", x -> x.lies(0, 0, 3));
        twins.outside("lies(0, 0, -1)", x -> x.lies(0, 0, -1));
        twins.answers("lies(0, 10, 0)", 1, x -> x.lies(0, 10, 0));
        twins.answers("lies(0, 10, 1)", 3, x -> x.lies(0, 10, 1));
        twins.outside("lies(0, 10, 2)", x -> x.lies(0, 10, 2));
        twins.outside("lies(0, 10, -1), before it lies one of the bucket 0", x -> x.lies(0, 10, -1));
        twins.outside("lies(0, 5, 0), empty", x -> x.lies(0, 5, 0));
        twins.outside("lies(0, 5, -1), empty", x -> x.lies(0, 5, -1));
        twins.outside("lies(0, 0, least)", x -> x.lies(0, 0, LEAST));
        twins.outside("lies(0, 0, most)", x -> x.lies(0, 0, MOST));
        twins.outside("lies(0, 10, most)", x -> x.lies(0, 10, MOST));
        twins.outside("lies(1, 0, 0), of the empty hearth", x -> x.lies(1, 0, 0));
        for (int wrong : new int[] {-1, 11, LEAST, MOST}) {
            twins.outside("lies(0, " + wrong + ", 0)", x -> x.lies(0, wrong, 0));
            twins.outside("lies(" + wrong + ", 0, 0)", x -> x.lies(wrong, 0, 0));
            twins.outside("lies(" + wrong + ", ...)", x -> x.lies(wrong, wrong, wrong));
        }
        twins.outside("lies(2, 0, 0)", x -> x.lies(2, 0, 0));
    }

    private static void liesAfterOneLeft() {
        Twins twins = new Twins(CHECKS, HearthsEdgesTest::firstOfThreeRaked);
        twins.answers("lies(0, 0, 1)", 2, x -> x.lies(0, 0, 1));
        twins.outside("lies(0, 0, 2)", x -> x.lies(0, 0, 2));
        CHECKS.due("lies(0, 0, 2) before", lit(0, 0, 0).lies(0, 0, 2), 2);
    }

    private static RadixHearth firstOfThreeRaked() {
        RadixHearth x = lit(0, 0, 0);
        x.rake(0);
        return x;
    }

    // Promise 10: "if heat is not the low of the hearth to 1023".
    private static void bucketOfHeat() {
        Twins twins = new Twins(CHECKS, HearthsEdgesTest::lows100And200);
        twins.answers("bucketOf(0, 100)", 0, x -> x.bucketOf(0, 100));
        twins.answers("bucketOf(0, 1023)", 10, x -> x.bucketOf(0, 1023));
        twins.answers("bucketOf(1, 200)", 0, x -> x.bucketOf(1, 200));
        twins.answers("bucketOf(1, 201)", 1, x -> x.bucketOf(1, 201));
        twins.argument("bucketOf(0, 99)", x -> x.bucketOf(0, 99));
        twins.argument("bucketOf(1, 199)", x -> x.bucketOf(1, 199));
        for (int heat : new int[] {-1, 1024, LEAST, MOST}) {
            twins.argument("bucketOf(0, " + heat + ")", x -> x.bucketOf(0, heat));
            twins.argument("bucketOf(1, " + heat + ")", x -> x.bucketOf(1, heat));
        }
        RadixHearth x = new RadixHearth();
        CHECKS.due("bucketOf(0, 0)", x.bucketOf(0, 0), 0);
        CHECKS.due("bucketOf(1, 1023)", x.bucketOf(1, 1023), 10);
    }

    private static void bucketOfNamesTheFirst() {
        Twins twins = new Twins(CHECKS, HearthsEdgesTest::lows100And200);
        for (int hearth : new int[] {-1, 2, LEAST, MOST}) {
            twins.outside("bucketOf(" + hearth + ", -1)", x -> x.bucketOf(hearth, -1));
            twins.outside("bucketOf(" + hearth + ", 1024)", x -> x.bucketOf(hearth, 1024));
        }
    }

    // Promise 11: "if hearth is not 0 to 1, or what is not 0 to 5".
    private static void aboutWhat() {
        Twins twins = new Twins(CHECKS, () -> lit(3, 700));
        twins.answers("about(0, 0)", 2, x -> x.about(0, 0));
        twins.answers("about(0, 5)", 700, x -> x.about(0, 5));
        twins.answers("about(1, 5)", -1, x -> x.about(1, 5));
        for (int wrong : new int[] {-1, 6, LEAST, MOST}) {
            twins.outside("about(0, " + wrong + ")", x -> x.about(0, wrong));
            twins.outside("about(1, " + wrong + ")", x -> x.about(1, wrong));
            twins.outside("about(" + wrong + ", 0)", x -> x.about(wrong, 0));
            twins.outside("about(" + wrong + ", " + wrong + ")", x -> x.about(wrong, wrong));
        }
        twins.outside("about(2, 5)", x -> x.about(2, 5));
    }

    // "the first bucket that is not empty, -1 for none, 3 the last one, -1 for none".
    private static void aboutFirstAndLast() {
        for (int bucket = 0; bucket <= 10; bucket++) {
            int heat = bucket == 0 ? 0 : POWERS[bucket - 1];
            RadixHearth x = lit(heat, heat);
            CHECKS.aboutDue(x, 0, 2, 0, bucket, bucket, 0, heat);
            CHECKS.aboutDue(x, 1, 0, 0, -1, -1, 0, -1);
            x.quench(0);
            CHECKS.aboutDue(x, 0, 1, 0, bucket, bucket, 0, heat);
            x.quench(1);
            CHECKS.aboutDue(x, 0, 0, 0, -1, -1, 0, -1);
        }
        RadixHearth x = lit(512, 1, 0);
        CHECKS.aboutDue(x, 0, 3, 0, 0, 10, 0, 512);
        x.quench(2);
        CHECKS.aboutDue(x, 0, 2, 0, 1, 10, 0, 512);
        x.quench(0);
        CHECKS.aboutDue(x, 0, 1, 0, 1, 1, 0, 1);
    }

    // "4 how often it was raked in all (also if embers were poured since)".
    private static void aboutRakesStay() {
        RadixHearth x = lit(3, 4, 5);
        x.light(1, 5);
        x.rake(0);
        x.rake(0);
        x.rake(1);
        x.pour(0);
        CHECKS.due("about(0, 4)", x.about(0, 4), 2);
        CHECKS.due("about(1, 4)", x.about(1, 4), 1);
        x.quench(2);
        CHECKS.due("about(1, 4) after quench()", x.about(1, 4), 1);
        x.light(1, 90);
        x.next(1, 0);
        x.moves(1, 1);
        x.advise(1);
        CHECKS.due("about(1, 4) after what would be", x.about(1, 4), 1);
    }

    // "5 the heat of its hottest ember, -1 without any".
    private static void aboutHottest() {
        CHECKS.due("about(0, 5) of the heat 0", lit(0).about(0, 5), 0);
        CHECKS.due("about(0, 5) of the heat 1023", lit(3, 1023, 4).about(0, 5), 1023);
        CHECKS.due("about(0, 5) in one bucket", lit(600, 900, 700).about(0, 5), 900);
        RadixHearth x = lit(900, 800);
        x.light(1, 950);
        x.quench(0);
        CHECKS.due("about(0, 5), 900 has gone out", x.about(0, 5), 800);
        x.fade(1, 100);
        CHECKS.due("about(0, 5), 800 has faded", x.about(0, 5), 100);
        x.rake(0);
        CHECKS.due("about(0, 5), all gone out", x.about(0, 5), -1);
    }

    // Promise 12: "if there is no such ember, or what is not 0 to 4".
    private static void toldEmber() {
        Twins twins = new Twins(CHECKS, () -> lit(3, 700));
        twins.answers("told(0, 0)", 3, x -> x.told(0, 0));
        twins.answers("told(1, 0)", 700, x -> x.told(1, 0));
        for (int wrong : new int[] {-1, 2, 39, 40, LEAST, MOST}) {
            for (int what = 0; what < 5; what++) {
                int asked = what;
                twins.outside("told(" + wrong + ", " + asked + ")", x -> x.told(wrong, asked));
            }
        }
        Twins forty = new Twins(CHECKS, () -> lit(new int[40]));
        forty.answers("told(39, 2) after 40", 0, x -> x.told(39, 2));
        forty.outside("told(40, 2) after 40", x -> x.told(40, 2));
    }

    private static void toldWhat() {
        Twins twins = new Twins(CHECKS, () -> lit(3, 700));
        twins.answers("told(1, 4)", 0, x -> x.told(1, 4));
        for (int wrong : new int[] {-1, 5, LEAST, MOST}) {
            twins.outside("told(0, " + wrong + ")", x -> x.told(0, wrong));
            twins.outside("told(" + wrong + ", " + wrong + ")", x -> x.told(wrong, wrong));
        }
        new Twins(CHECKS, HearthsEdgesTest::firstOfThreeRaked).outside("told(0, 5), gone out", x -> x.told(0, 5));
        new Twins(CHECKS, HearthsEdgesTest::firstOfThreeRaked).outside("told(0, -1), gone out", x -> x.told(0, -1));
        new Twins(CHECKS, HearthsEdgesTest::firstOfThreeRaked).answers("told(0, 4), raked", 1, x -> x.told(0, 4));
    }

    // Promise 13: "if what is not 0 to 4".
    private static void countWhat() {
        Twins twins = new Twins(CHECKS, HearthsEdgesTest::firstOfThreeRaked);
        twins.answers("count(0)", 3, x -> x.count(0));
        twins.answers("count(4)", 0, x -> x.count(4));
        for (int wrong : new int[] {-1, 5, LEAST, MOST}) {
            twins.outside("count(" + wrong + ")", x -> x.count(wrong));
        }
    }

    // "in all": both hearths together, and what has gone out stays counted.
    private static void countInAll() {
        RadixHearth x = lit(1, 2, 3);
        Checks.light(x, 1, 4, 5, 6);
        x.rake(0);
        x.rake(1);
        CHECKS.countDue(x, 6, 4, 4, 2, 0);
        x.quench(1);
        x.quench(4);
        CHECKS.countDue(x, 6, 2, 4, 2, 2);
        x.pour(1);
        CHECKS.countDue(x, 6, 2, 5, 2, 2);
    }

    private static void askingChangesNothing() {
        Twins twins = new Twins(CHECKS, HearthsEdgesTest::bothWithEmbers);
        twins.answers("many(0, 10)", 1, x -> x.many(0, 10));
        twins.answers("lies(0, 10, 0)", 0, x -> x.lies(0, 10, 0));
        twins.answers("bucketOf(0, 40)", 6, x -> x.bucketOf(0, 40));
        twins.answers("bucketOf(1, 1023)", 10, x -> x.bucketOf(1, 1023));
        for (int what = 0; what < 6; what++) {
            int asked = what;
            int due = new int[] {2, 0, 6, 10, 0, 700}[what];
            twins.answers("about(0, " + asked + ")", due, x -> x.about(0, asked));
        }
        for (int what = 0; what < 5; what++) {
            int asked = what;
            twins.answers("told(0, " + asked + ")", new int[] {700, 0, 10, 0, 0}[what], x -> x.told(0, asked));
            twins.answers("count(" + asked + ")", new int[] {4, 3, 2, 1, 0}[what], x -> x.count(asked));
        }
    }

    private static RadixHearth bothWithEmbers() {
        RadixHearth x = lit(700, 40);
        Checks.light(x, 1, 50, 40);
        x.rake(1);
        return x;
    }

    private static RadixHearth lit(int... heats) {
        RadixHearth x = new RadixHearth();
        Checks.light(x, 0, heats);
        return x;
    }
}
