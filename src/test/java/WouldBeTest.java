/** Promises 14 to 19: next, moves, highest, advise, mean, digest. */
public final class WouldBeTest {
    private static final Checks CHECKS = new Checks();
    private static final int[] ADVISED = {900, 17, 33, 18, 512, 16, 40, 17};

    public static void main(String[] args) {
        promise14Next();
        promise14NextRefuses();
        promise15Moves();
        promise15MovesRefuses();
        promise16Highest();
        promise17Advise();
        promises14To17AtTheLow();
        promise17AdviseRefuses();
        promise18Mean();
        promise19Digest();
        CHECKS.end("WouldBeTest");
    }

    private static void promise14Next() {
        RadixHearth x = new RadixHearth();
        Checks.light(x, 1, 50, 33, 40, 32, 35, 34, 48, 32, 200);
        Checks.light(x, 0, 1);
        long before = x.digest();
        int[] want = {3, 7, 1, 5, 4, 2, 6, 0, 8};
        for (int place = 0; place < want.length; place++) {
            CHECKS.due("next(1, " + place + ")", x.next(1, place), want[place]);
        }
        CHECKS.due("next(0, 0)", x.next(0, 0), 9);
        CHECKS.due("digest() after next()", x.digest(), before);
        for (int place = 0; place < want.length; place++) {
            CHECKS.due("rake(1) at " + place, x.rake(1), want[place]);
        }
    }

    private static void promise14NextRefuses() {
        RadixHearth x = new RadixHearth();
        CHECKS.refusedOutside(x, "next(0, 0) without embers", () -> x.next(0, 0));
        Checks.light(x, 0, 5, 5);
        CHECKS.refusedOutside(x, "next(0, 2)", () -> x.next(0, 2));
        CHECKS.refusedOutside(x, "next(0, -1)", () -> x.next(0, -1));
        CHECKS.refusedOutside(x, "next(-1, 0)", () -> x.next(-1, 0));
        CHECKS.refusedOutside(x, "next(2, 0)", () -> x.next(2, 0));
        CHECKS.refusedOutside(x, "next(1, 0)", () -> x.next(1, 0));
    }

    private static void promise15Moves() {
        RadixHearth x = new RadixHearth();
        Checks.light(x, 0, 900, 17, 33, 18, 512, 16, 40, 17);
        x.rake(0);
        int moved = x.count(2);
        long before = x.digest();
        int[] due = new int[8];
        for (int times = 0; times < due.length; times++) {
            due[times] = x.moves(0, times);
        }
        CHECKS.due("moves(0, 0)", due[0], 0);
        CHECKS.due("moves(0, 1)", due[1], 2);
        CHECKS.due("moves(0, 2)", due[2], 2);
        CHECKS.due("moves(0, 3)", due[3], 3);
        CHECKS.due("moves(0, 7)", due[7], 9);
        CHECKS.due("digest() after moves()", x.digest(), before);
        for (int times = 1; times < due.length; times++) {
            x.rake(0);
            CHECKS.due("moves after rake() " + times, x.count(2) - moved, due[times]);
        }
        CHECKS.due("moves(0, 0) of the empty one", x.moves(0, 0), 0);
    }

    private static void promise15MovesRefuses() {
        RadixHearth x = new RadixHearth();
        Checks.light(x, 0, 5, 5);
        CHECKS.due("moves(0, 2)", x.moves(0, 2), 2);
        CHECKS.refusedArgument(x, "moves(0, 3)", () -> x.moves(0, 3));
        CHECKS.refusedArgument(x, "moves(0, -1)", () -> x.moves(0, -1));
        CHECKS.refusedArgument(x, "moves(1, 1)", () -> x.moves(1, 1));
        CHECKS.refusedOutside(x, "moves(-1, 0)", () -> x.moves(-1, 0));
        CHECKS.refusedOutside(x, "moves(2, -1)", () -> x.moves(2, -1));
    }

    private static void promise16Highest() {
        RadixHearth x = new RadixHearth();
        CHECKS.due("highest(0) without any", x.highest(0), 1023);
        x.raise(0, 64);
        CHECKS.due("highest(0) without any, low 64", x.highest(0), 1023);
        Checks.light(x, 0, 900, 600, 800);
        CHECKS.due("highest(0)", x.highest(0), 600);
        x.light(0, 65);
        CHECKS.due("highest(0)", x.highest(0), 65);
        x.fade(3, 64);
        CHECKS.due("highest(0)", x.highest(0), 64);
        CHECKS.due("highest(1)", x.highest(1), 1023);
        CHECKS.refusedOutside(x, "highest(-1)", () -> x.highest(-1));
        CHECKS.refusedOutside(x, "highest(2)", () -> x.highest(2));
    }

    private static void promise17Advise() {
        RadixHearth x = new RadixHearth();
        CHECKS.due("advise(0) without any", x.advise(0), -1);
        Checks.light(x, 0, ADVISED);
        x.light(1, 3);
        long before = x.digest();
        CHECKS.due("advise(0)", x.advise(0), 5);
        CHECKS.due("advise(1)", x.advise(1), 8);
        CHECKS.due("digest() after advise()", x.digest(), before);
        adviseIsTheFewest();
        RadixHearth alike = new RadixHearth();
        Checks.light(alike, 0, 8, 8, 8);
        CHECKS.due("advise(0), all alike", alike.advise(0), 0);
        alike.quench(0);
        CHECKS.due("advise(0), 0 has gone out", alike.advise(0), 1);
    }

    // With all it would be 13 moves: 7 for the heats 16 to 18, 3 for 33 and 40, 3 for 512 and 900.
    private static void adviseIsTheFewest() {
        int[] due = {11, 11, 11, 11, 11, 10, 11, 11};
        for (int ember = 0; ember < ADVISED.length; ember++) {
            RadixHearth x = new RadixHearth();
            Checks.light(x, 0, ADVISED);
            x.quench(ember);
            CHECKS.due("moves without " + ember, x.moves(0, ADVISED.length - 1), due[ember]);
        }
    }

    // What would be starts from the low and the bucket 0 as they are, whatever was asked of before.
    private static void promises14To17AtTheLow() {
        RadixHearth x = new RadixHearth();
        x.raise(0, 21);
        Checks.light(x, 0, 22, 21, 23, 21);
        Checks.light(x, 1, 512, 3);
        CHECKS.due("moves(1, 2)", x.moves(1, 2), 2);
        CHECKS.due("advise(1)", x.advise(1), 4);
        CHECKS.due("moves(0, 2)", x.moves(0, 2), 0);
        CHECKS.due("moves(0, 4)", x.moves(0, 4), 3);
        CHECKS.due("next(0, 0)", x.next(0, 0), 1);
        CHECKS.due("next(0, 1)", x.next(0, 1), 3);
        CHECKS.due("next(0, 2)", x.next(0, 2), 0);
        CHECKS.due("next(0, 3)", x.next(0, 3), 2);
        CHECKS.due("advise(0)", x.advise(0), 0);
        CHECKS.due("highest(0)", x.highest(0), 21);
        x.quench(0);
        CHECKS.due("moves(0, 3) without 0", x.moves(0, 3), 1);
    }

    private static void promise17AdviseRefuses() {
        RadixHearth x = new RadixHearth();
        x.light(0, 4);
        CHECKS.refusedOutside(x, "advise(-1)", () -> x.advise(-1));
        CHECKS.refusedOutside(x, "advise(2)", () -> x.advise(2));
        CHECKS.due("advise(1) without any", x.advise(1), -1);
    }

    private static void promise18Mean() {
        RadixHearth x = new RadixHearth();
        CHECKS.due("mean() without any", x.mean(), 0.0);
        Checks.light(x, 0, 5, 6);
        CHECKS.due("mean()", x.mean(), 5.5);
        Checks.light(x, 1, 1000, 1);
        CHECKS.due("mean() of both hearths", x.mean(), 253.0);
        x.fade(2, 3);
        CHECKS.due("mean() after fade()", x.mean(), 3.75);
        x.quench(1);
        CHECKS.due("mean() of three", x.mean(), 3.0);
        x.rake(1);
        CHECKS.due("mean() of two", x.mean(), 4.0);
        x.rake(0);
        x.rake(1);
        CHECKS.due("mean() when all have gone out", x.mean(), 0.0);
    }

    private static void promise19Digest() {
        RadixHearth x = new RadixHearth();
        CHECKS.due("digest() of a new object", x.digest(), digestOf(x));
        Checks.light(x, 0, 50, 33, 33, 32);
        Checks.light(x, 1, 2, 1, 900);
        x.rake(0);
        x.quench(5);
        CHECKS.due("digest()", x.digest(), digestOf(x));
        CHECKS.due("digest() again", x.digest(), digestOf(x));
        x.pour(0);
        x.raise(1, x.highest(1));
        CHECKS.due("digest() after pour()", x.digest(), digestOf(x));
        RadixHearth one = new RadixHearth();
        RadixHearth two = new RadixHearth();
        Checks.light(one, 0, 8, 9);
        Checks.light(two, 0, 9, 8);
        CHECKS.due("digests alike", one.digest() == two.digest(), false);
    }

    private static long digestOf(RadixHearth x) {
        long sum = 1489;
        for (int what = 0; what < 5; what++) {
            sum = sum * 31 + x.count(what);
        }
        for (int hearth = 0; hearth < 2; hearth++) {
            for (int what = 0; what < 6; what++) {
                sum = sum * 31 + x.about(hearth, what);
            }
            for (int bucket = 0; bucket < 11; bucket++) {
                sum = sum * 31 + x.many(hearth, bucket);
                for (int place = 0; place < x.many(hearth, bucket); place++) {
                    sum = sum * 31 + x.lies(hearth, bucket, place);
                }
            }
        }
        for (int ember = 0; ember < x.count(0); ember++) {
            for (int what = 0; what < 5; what++) {
                sum = sum * 31 + x.told(ember, what);
            }
        }
        return sum;
    }
}
