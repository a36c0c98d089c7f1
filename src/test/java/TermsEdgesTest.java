/** The boundaries that "What it is" and "Terms" name; each test bears the sentence that it holds to. */
public final class TermsEdgesTest {
    private static final Checks CHECKS = new Checks();
    private static final int LEAST = Integer.MIN_VALUE;
    private static final int MOST = Integer.MAX_VALUE;
    private static final int[] NO_HEARTHS = {-1, 2, LEAST, MOST};
    private static final int[] POWERS = {0, 1, 2, 4, 8, 16, 32, 64, 128, 256, 512};

    public static void main(String[] args) {
        usedFor512Calls();
        noHearthButTwo();
        lowIs0AtFirst();
        lowGoesTo1023();
        elevenBuckets();
        firstIsAheadOfAllOthers();
        fortyInAll();
        numberedFrom0();
        heatIs0To1023();
        heatIsNeverLessThanTheLow();
        bucketOfTheLowIs0();
        bucketByTheHighestBit();
        bucketsOfAllHeats();
        putToTheEnd();
        spreadFromTheFirstOn();
        spreadByTheLowAsItIsThen();
        eachSpreadIsAMove();
        sameBucketIsAMoveToo();
        rakeWithoutSpreading();
        rakeSpreadsTheFirstBucketAlone();
        rakeOfASingleEmber();
        movesAreThoseAlone();
        goneOutKeepsItsHeat();
        CHECKS.end("TermsEdgesTest");
    }

    // "An object is used for at most 512 calls": up to the last of them all answers are as due.
    private static void usedFor512Calls() {
        RadixHearth x = new RadixHearth();
        for (int call = 1; call <= 40; call++) {
            CHECKS.due("light(0, 1023) as call " + call, x.light(0, 1023), call - 1);
        }
        for (int call = 41; call <= 510; call++) {
            CHECKS.due("advise(0) as call " + call, x.advise(0), 0);
        }
        CHECKS.due("moves(0, 40) as call 511", x.moves(0, 40), 40);
        CHECKS.due("rake(0) as call 512", x.rake(0), 0);
    }

    // "There are two, 0 and 1".
    private static void noHearthButTwo() {
        Twins twins = new Twins(CHECKS, TermsEdgesTest::bothLit);
        for (int hearth : NO_HEARTHS) {
            twins.outside("light(" + hearth + ", 5)", x -> x.light(hearth, 5));
            twins.outside("rake(" + hearth + ")", x -> x.rake(hearth));
            twins.outside("raise(" + hearth + ", 1)", x -> x.raise(hearth, 1));
            twins.outside("pour(" + hearth + ")", x -> x.pour(hearth));
            twins.outside("many(" + hearth + ", 3)", x -> x.many(hearth, 3));
            twins.outside("lies(" + hearth + ", 3, 0)", x -> x.lies(hearth, 3, 0));
            twins.outside("bucketOf(" + hearth + ", 5)", x -> x.bucketOf(hearth, 5));
            twins.outside("about(" + hearth + ", 0)", x -> x.about(hearth, 0));
            twins.outside("next(" + hearth + ", 0)", x -> x.next(hearth, 0));
            twins.outside("moves(" + hearth + ", 0)", x -> x.moves(hearth, 0));
            twins.outside("highest(" + hearth + ")", x -> x.highest(hearth));
            twins.outside("advise(" + hearth + ")", x -> x.advise(hearth));
        }
        for (int hearth = 0; hearth < 2; hearth++) {
            RadixHearth x = bothLit();
            CHECKS.due("many(" + hearth + ", 3)", x.many(hearth, 3), 1);
            CHECKS.due("lies(" + hearth + ", 3, 0)", x.lies(hearth, 3, 0), hearth * 3);
            CHECKS.due("bucketOf(" + hearth + ", 5)", x.bucketOf(hearth, 5), 3);
            CHECKS.due("about(" + hearth + ", 0)", x.about(hearth, 0), 3);
            CHECKS.due("next(" + hearth + ", 0)", x.next(hearth, 0), hearth * 3);
            CHECKS.due("moves(" + hearth + ", 0)", x.moves(hearth, 0), 0);
            CHECKS.due("highest(" + hearth + ")", x.highest(hearth), 5);
            CHECKS.due("advise(" + hearth + ")", x.advise(hearth), hearth * 3);
            CHECKS.due("light(" + hearth + ", 5)", x.light(hearth, 5), 6);
            CHECKS.due("raise(" + hearth + ", 1)", x.raise(hearth, 1), 4);
            CHECKS.due("rake(" + hearth + ")", x.rake(hearth), hearth * 3);
            CHECKS.due("pour(" + hearth + ")", x.pour(hearth), 3);
        }
    }

    // "each has a low, 0 to 1023 (0, at first)".
    private static void lowIs0AtFirst() {
        RadixHearth x = new RadixHearth();
        CHECKS.due("about(0, 1)", x.about(0, 1), 0);
        CHECKS.due("about(1, 1)", x.about(1, 1), 0);
        CHECKS.due("light(0, 0)", x.light(0, 0), 0);
        CHECKS.due("light(1, 0)", x.light(1, 0), 1);
        CHECKS.bucketDue(x, 0, 0, 0);
        CHECKS.bucketDue(x, 1, 0, 1);
    }

    private static void lowGoesTo1023() {
        RadixHearth x = new RadixHearth();
        CHECKS.due("raise(0, 1023)", x.raise(0, 1023), 0);
        CHECKS.due("about(0, 1)", x.about(0, 1), 1023);
        CHECKS.due("light(0, 1023)", x.light(0, 1023), 0);
        CHECKS.bucketDue(x, 0, 0, 0);
        CHECKS.due("rake(0)", x.rake(0), 0);
        CHECKS.due("moves", x.count(2), 0);
        Checks.light(x, 1, 1023, 1023);
        CHECKS.due("rake(1)", x.rake(1), 1);
        CHECKS.due("about(1, 1)", x.about(1, 1), 1023);
        CHECKS.due("moves", x.count(2), 2);
        new Twins(CHECKS, TermsEdgesTest::raisedTo1023).argument("raise(0, 1024)", y -> y.raise(0, 1024));
    }

    private static RadixHearth raisedTo1023() {
        RadixHearth x = new RadixHearth();
        x.raise(0, 1023);
        return x;
    }

    // "and 11 buckets, 0 to 10".
    private static void elevenBuckets() {
        RadixHearth x = new RadixHearth();
        Checks.light(x, 0, POWERS);
        Checks.light(x, 1, POWERS);
        for (int bucket = 0; bucket <= 10; bucket++) {
            CHECKS.bucketDue(x, 0, bucket, bucket);
            CHECKS.bucketDue(x, 1, bucket, bucket + 11);
        }
        Twins twins = new Twins(CHECKS, () -> lit(POWERS));
        for (int bucket : new int[] {-1, 11, LEAST, MOST}) {
            twins.outside("many(0, " + bucket + ")", y -> y.many(0, bucket));
            twins.outside("many(1, " + bucket + ")", y -> y.many(1, bucket));
            twins.outside("lies(0, " + bucket + ", 0)", y -> y.lies(0, bucket, 0));
            twins.outside("lies(1, " + bucket + ", 0)", y -> y.lies(1, bucket, 0));
        }
    }

    // "each a row of embers, the first one ahead of all others".
    private static void firstIsAheadOfAllOthers() {
        RadixHearth x = new RadixHearth();
        Checks.light(x, 0, 0, 0, 0);
        CHECKS.bucketDue(x, 0, 0, 0, 1, 2);
        for (int ember = 0; ember < 3; ember++) {
            CHECKS.due("next(0, " + ember + ")", x.next(0, ember), ember);
        }
        CHECKS.due("rake(0)", x.rake(0), 0);
        CHECKS.bucketDue(x, 0, 0, 1, 2);
        CHECKS.due("rake(0)", x.rake(0), 1);
        CHECKS.due("rake(0)", x.rake(0), 2);
    }

    // "At most 40 can be lit in all": in both hearths together, and those that have gone out count too.
    private static void fortyInAll() {
        RadixHearth x = fortyOfBothHearths();
        CHECKS.countDue(x, 40, 38, 1, 1, 1);
        Twins twins = new Twins(CHECKS, TermsEdgesTest::fortyOfBothHearths);
        twins.state("light(0, 500) after 40", y -> y.light(0, 500));
        twins.state("light(1, 500) after 40", y -> y.light(1, 500));
        new Twins(CHECKS, () -> emptied(fortyOfBothHearths()))
                .state("light(0, 1023) after 40 that have gone out", y -> y.light(0, 1023));
    }

    private static RadixHearth fortyOfBothHearths() {
        RadixHearth x = new RadixHearth();
        x.light(0, 3);
        x.light(1, 3);
        x.rake(0);
        x.quench(1);
        for (int ember = 2; ember < 40; ember++) {
            CHECKS.due("light of ember " + ember, x.light(ember % 2, 500 + ember), ember);
        }
        return x;
    }

    private static RadixHearth emptied(RadixHearth x) {
        for (int hearth = 0; hearth < 2; hearth++) {
            while (x.about(hearth, 0) > 0) {
                x.rake(hearth);
            }
        }
        return x;
    }

    // "numbered from 0": over both hearths, and a number is not used again.
    private static void numberedFrom0() {
        RadixHearth x = new RadixHearth();
        CHECKS.due("light(1, 9)", x.light(1, 9), 0);
        CHECKS.due("light(0, 9)", x.light(0, 9), 1);
        x.quench(1);
        CHECKS.due("light(0, 9) after quench()", x.light(0, 9), 2);
        x.rake(1);
        CHECKS.due("light(1, 9) after rake()", x.light(1, 9), 3);
    }

    // "each has a heat, 0 to 1023".
    private static void heatIs0To1023() {
        RadixHearth x = new RadixHearth();
        x.light(0, 0);
        x.light(0, 1023);
        CHECKS.toldDue(x, 0, 0, 0, 0, 0, 0);
        CHECKS.toldDue(x, 1, 1023, 0, 10, 0, 0);
        Twins twins = new Twins(CHECKS, () -> lit(5));
        for (int heat : new int[] {-1, 1024, LEAST, MOST}) {
            twins.argument("light(0, " + heat + ")", y -> y.light(0, heat));
            twins.argument("fade(0, " + heat + ")", y -> y.fade(0, heat));
            twins.argument("bucketOf(0, " + heat + ")", y -> y.bucketOf(0, heat));
        }
    }

    // "The heat of an ember is never less than the low of its hearth", whichever call would make it so.
    private static void heatIsNeverLessThanTheLow() {
        Twins twins = new Twins(CHECKS, TermsEdgesTest::lowsOf7And8);
        twins.argument("light(0, 6)", x -> x.light(0, 6));
        twins.argument("fade(0, 6)", x -> x.fade(0, 6));
        twins.argument("raise(0, 8)", x -> x.raise(0, 8));
        twins.state("pour(0)", x -> x.pour(0));
        RadixHearth x = lowsOf7And8();
        x.rake(0);
        CHECKS.due("low after rake(0)", x.about(0, 1), 7);
        CHECKS.due("least heat after rake(0)", x.highest(0), 9);
        x.rake(0);
        CHECKS.due("low after rake(0)", x.about(0, 1), 9);
        CHECKS.due("least heat after rake(0)", x.highest(0), 12);
    }

    private static RadixHearth lowsOf7And8() {
        RadixHearth x = new RadixHearth();
        x.raise(0, 7);
        x.raise(1, 8);
        Checks.light(x, 0, 7, 12, 9);
        return x;
    }

    // "Its bucket: 0, if its heat is the low".
    private static void bucketOfTheLowIs0() {
        for (int low : new int[] {0, 1, 511, 512, 513, 1023}) {
            RadixHearth x = new RadixHearth();
            x.raise(0, low);
            CHECKS.due("bucketOf(0, " + low + ")", x.bucketOf(0, low), 0);
            x.light(0, low);
            CHECKS.due("bucket of the low " + low, x.told(0, 2), 0);
            if (low < 1023) {
                x.light(0, low + 1);
                CHECKS.due("bucket of 1 above the low " + low, x.told(1, 2), plainBucket(low, low + 1));
                CHECKS.due("embers of the bucket 0 at " + low, x.many(0, 0), 1);
            }
        }
    }

    // "1 more than the number of the highest bit in which both differ (of 1 the number is 0, of 512 it is 9)".
    private static void bucketByTheHighestBit() {
        for (int bucket = 1; bucket <= 10; bucket++) {
            int least = 1 << (bucket - 1);
            int most = least * 2 - 1;
            RadixHearth x = lit(least, most);
            CHECKS.bucketDue(x, 0, bucket, 0, 1);
            CHECKS.due("bucketOf(0, " + least + ")", x.bucketOf(0, least), bucket);
            CHECKS.due("bucketOf(0, " + most + ")", x.bucketOf(0, most), bucket);
        }
        RadixHearth x = new RadixHearth();
        x.raise(0, 511);
        x.light(0, 512);
        CHECKS.bucketDue(x, 0, 10, 0);
        x.raise(1, 512);
        Checks.light(x, 1, 513, 1023);
        CHECKS.bucketDue(x, 1, 1, 1);
        CHECKS.bucketDue(x, 1, 9, 2);
    }

    private static void bucketsOfAllHeats() {
        for (int low : new int[] {0, 1, 2, 3, 255, 256, 341, 511, 512, 682, 767, 1022, 1023}) {
            RadixHearth x = null;
            for (int heat = low; heat <= 1023; heat++) {
                if (x == null || (heat - low) % 400 == 0) {
                    x = new RadixHearth();
                    x.raise(1, low);
                }
                CHECKS.due("bucketOf(1, " + heat + ") at " + low, x.bucketOf(1, heat), plainBucket(low, heat));
            }
        }
    }

    private static int plainBucket(int low, int heat) {
        for (int bit = 9; bit >= 0; bit--) {
            int value = POWERS[bit + 1];
            if (low / value % 2 != heat / value % 2) {
                return bit + 1;
            }
        }
        return 0;
    }

    // "it comes to the end of its bucket": when it is lit, when it fades, with raise() and with pour().
    private static void putToTheEnd() {
        RadixHearth x = new RadixHearth();
        Checks.light(x, 0, 14, 15, 13);
        CHECKS.bucketDue(x, 0, 4, 0, 1, 2);
        x.fade(0, 8);
        CHECKS.bucketDue(x, 0, 4, 1, 2, 0);
        x.raise(0, 1);
        CHECKS.bucketDue(x, 0, 4, 1, 2, 0);
        Checks.light(x, 1, 9, 12);
        x.pour(0);
        CHECKS.bucketDue(x, 1, 4, 3, 4, 1, 2, 0);
    }

    // "its embers, from the first one on, are taken out, and each is put into the hearth".
    private static void spreadFromTheFirstOn() {
        RadixHearth x = lit(11, 10, 9, 11, 8, 10, 9, 8, 11);
        CHECKS.due("rake(0)", x.rake(0), 4);
        CHECKS.bucketDue(x, 0, 0, 7);
        CHECKS.bucketDue(x, 0, 1, 2, 6);
        CHECKS.bucketDue(x, 0, 2, 0, 1, 3, 5, 8);
        CHECKS.bucketDue(x, 0, 4);
    }

    // "by the low as it is then": 12 and 15 differ from the low 0 in the bit of 8, from 12 in that of 2.
    private static void spreadByTheLowAsItIsThen() {
        RadixHearth x = lit(15, 12, 13);
        x.rake(0);
        CHECKS.due("about(0, 1)", x.about(0, 1), 12);
        CHECKS.bucketDue(x, 0, 1, 2);
        CHECKS.bucketDue(x, 0, 2, 0);
        CHECKS.bucketDue(x, 0, 3);
        CHECKS.bucketDue(x, 0, 4);
    }

    // "each of these is a move": that of the ember which is raked then, too.
    private static void eachSpreadIsAMove() {
        RadixHearth x = lit(8, 9, 15, 16);
        x.rake(0);
        CHECKS.due("moves", x.count(2), 3);
        for (int ember = 0; ember < 4; ember++) {
            CHECKS.due("moves of ember " + ember, x.told(ember, 3), ember < 3 ? 1 : 0);
        }
    }

    // "also if it comes into the same bucket again".
    private static void sameBucketIsAMoveToo() {
        RadixHearth x = lit(512, 1023, 2);
        CHECKS.due("raise(0, 1)", x.raise(0, 1), 3);
        CHECKS.bucketDue(x, 0, 2, 2);
        CHECKS.bucketDue(x, 0, 10, 0, 1);
        for (int ember = 0; ember < 3; ember++) {
            CHECKS.due("moves of ember " + ember, x.told(ember, 3), 1);
        }
        CHECKS.due("moves", x.count(2), 3);
    }

    // "if the bucket 0 is empty": if it is not, the low stays and nothing is spread.
    private static void rakeWithoutSpreading() {
        RadixHearth x = lit(1, 1, 0, 900);
        CHECKS.due("rake(0)", x.rake(0), 2);
        CHECKS.aboutDue(x, 0, 3, 0, 1, 10, 1, 900);
        CHECKS.bucketDue(x, 0, 1, 0, 1);
        CHECKS.due("moves", x.count(2), 0);
        CHECKS.due("rake(0)", x.rake(0), 0);
        CHECKS.aboutDue(x, 0, 2, 1, 0, 10, 2, 900);
        CHECKS.bucketDue(x, 0, 0, 1);
        CHECKS.due("moves", x.count(2), 2);
    }

    // "the first bucket that is not empty ... and this bucket is spread": no later one.
    private static void rakeSpreadsTheFirstBucketAlone() {
        RadixHearth x = lit(900, 40, 800, 33, 2);
        x.quench(4);
        CHECKS.due("rake(0)", x.rake(0), 3);
        CHECKS.aboutDue(x, 0, 3, 33, 4, 10, 1, 900);
        CHECKS.bucketDue(x, 0, 10, 0, 2);
        CHECKS.due("moves of ember 0", x.told(0, 3), 0);
        CHECKS.due("moves of ember 2", x.told(2, 3), 0);
        CHECKS.due("moves", x.count(2), 2);
    }

    private static void rakeOfASingleEmber() {
        for (int bucket = 0; bucket <= 10; bucket++) {
            RadixHearth x = lit(POWERS[bucket]);
            CHECKS.due("rake(0) from bucket " + bucket, x.rake(0), 0);
            CHECKS.aboutDue(x, 0, 0, POWERS[bucket], -1, -1, 1, -1);
            CHECKS.due("moves from bucket " + bucket, x.count(2), bucket == 0 ? 0 : 1);
        }
    }

    // "Moves are those of spreading, of raise() and of pour() alone."
    private static void movesAreThoseAlone() {
        RadixHearth x = lit(0, 3, 9, 9);
        x.fade(3, 8);
        x.fade(2, 7);
        x.quench(1);
        x.rake(0);
        CHECKS.due("moves by light(), fade(), quench(), and rake() of the low", x.count(2), 0);
        for (int ember = 0; ember < 4; ember++) {
            CHECKS.due("moves of ember " + ember, x.told(ember, 3), 0);
        }
        x.raise(0, 1);
        CHECKS.due("moves with raise()", x.count(2), 2);
        x.pour(0);
        CHECKS.due("moves with pour()", x.count(2), 4);
        x.rake(1);
        CHECKS.due("moves with spreading", x.count(2), 5);
        CHECKS.due("moves of ember 2", x.told(2, 3), 3);
        CHECKS.due("moves of ember 3", x.told(3, 3), 2);
    }

    // "An ember that has gone out keeps its heat."
    private static void goneOutKeepsItsHeat() {
        RadixHearth x = lit(0, 1023, 600);
        x.fade(1, 601);
        x.quench(1);
        x.rake(0);
        x.rake(0);
        x.raise(0, 1000);
        x.pour(0);
        CHECKS.due("heat of ember 0", x.told(0, 0), 0);
        CHECKS.due("heat of ember 1", x.told(1, 0), 601);
        CHECKS.due("heat of ember 2", x.told(2, 0), 600);
    }

    private static RadixHearth lit(int... heats) {
        RadixHearth x = new RadixHearth();
        Checks.light(x, 0, heats);
        return x;
    }

    private static RadixHearth bothLit() {
        RadixHearth x = new RadixHearth();
        Checks.light(x, 0, 5, 9, 700);
        Checks.light(x, 1, 5, 9, 700);
        return x;
    }
}
