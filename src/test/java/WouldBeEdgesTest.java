import java.math.BigInteger;
import java.util.ArrayList;
import java.util.Arrays;
import java.util.List;

/** The boundaries that promises 14 to 19 name; each test bears the sentence that it holds to. */
public final class WouldBeEdgesTest {
    private static final Checks CHECKS = new Checks();
    private static final int LEAST = Integer.MIN_VALUE;
    private static final int MOST = Integer.MAX_VALUE;
    private static final BigInteger ROUND = BigInteger.ONE.shiftLeft(64);

    public static void main(String[] args) {
        nextPlace();
        nextOfForty();
        nextChangesNothing();
        movesTimes();
        movesNamesTheFirst();
        movesOfForty();
        movesOfTheBucket0();
        movesChangesNothing();
        highestIsTheLeast();
        highestWithoutAny();
        highestCanBeRaisedTo();
        adviseWithoutAny();
        adviseOfASingleOne();
        adviseTheSmallestNumber();
        adviseTheFewestMoves();
        adviseTillItIsEmpty();
        adviseOfItsOwnHearth();
        adviseChangesNothing();
        whatWouldBeOfNoHearth();
        meanWithoutAny();
        meanIsNotCut();
        meanOfTheHottestAndTheColdest();
        meanOfThoseThatLie();
        digestStartsWith1489();
        digestOfFewEmbers();
        digestWrapsAround();
        digestTellsEachNumber();
        CHECKS.end("WouldBeEdgesTest");
    }

    private static RadixHearth lit(int... heats) {
        RadixHearth x = new RadixHearth();
        Checks.light(x, 0, heats);
        return x;
    }

    private static RadixHearth twoAndFive() {
        RadixHearth x = lit(9, 3);
        Checks.light(x, 1, 8, 7, 6, 5, 4);
        return x;
    }

    // Promise 14: "or it has not so many embers"; "0 for the next one".
    private static void nextPlace() {
        Twins twins = new Twins(CHECKS, WouldBeEdgesTest::twoAndFive);
        twins.answers("next(0, 0)", 1, x -> x.next(0, 0));
        twins.answers("next(0, 1)", 0, x -> x.next(0, 1));
        twins.answers("next(1, 4)", 2, x -> x.next(1, 4));
        twins.outside("next(0, 2), the other one has five", x -> x.next(0, 2));
        twins.outside("next(1, 5)", x -> x.next(1, 5));
        for (int place : new int[] {-1, LEAST, MOST}) {
            twins.outside("next(0, " + place + ")", x -> x.next(0, place));
            twins.outside("next(1, " + place + ")", x -> x.next(1, place));
        }
        new Twins(CHECKS, RadixHearth::new).outside("next(0, 0), new", x -> x.next(0, 0));
        new Twins(CHECKS, () -> lit(5)).outside("next(0, 1) of one", x -> x.next(0, 1));
        new Twins(CHECKS, () -> lit(5)).answers("next(0, 0) of one", 0, x -> x.next(0, 0));
        RadixHearth x = twoAndFive();
        x.rake(0);
        CHECKS.due("next(0, 0) after rake()", x.next(0, 0), 0);
        CHECKS.refusedOutside(x, "next(0, 1) after rake()", () -> x.next(0, 1));
    }

    private static void nextOfForty() {
        Twins twins = new Twins(CHECKS, () -> lit(new int[40]));
        twins.answers("next(0, 39)", 39, x -> x.next(0, 39));
        twins.outside("next(0, 40)", x -> x.next(0, 40));
    }

    // "nothing is changed": neither the low, nor the order, nor what is told of moves and raking.
    private static void nextChangesNothing() {
        Twins twins = new Twins(CHECKS, WouldBeEdgesTest::raisedAndRaked);
        int[] due = {6, 4, 2, 3, 5, 0};
        for (int place = 0; place < due.length; place++) {
            int asked = place;
            twins.answers("next(0, " + place + ")", due[place], x -> x.next(0, asked));
        }
        RadixHearth x = raisedAndRaked();
        for (int place = due.length - 1; place >= 0; place--) {
            CHECKS.due("next(0, " + place + ") from behind", x.next(0, place), due[place]);
        }
        for (int ember : due) {
            CHECKS.due("rake(0)", x.rake(0), ember);
        }
    }

    // The low is 20 then: 6 lies in the bucket 0, 4 in 1, 2 in 2, 3 and 5 in 7, 0 in 10.
    private static RadixHearth raisedAndRaked() {
        RadixHearth x = lit(900, 20, 23, 64, 21, 64, 20);
        x.light(1, 5);
        x.raise(0, 16);
        x.rake(0);
        return x;
    }

    // Promise 15: "if times is not 0 to as many as it has embers".
    private static void movesTimes() {
        Twins twins = new Twins(CHECKS, WouldBeEdgesTest::twoAndFive);
        twins.answers("moves(0, 0)", 0, x -> x.moves(0, 0));
        twins.answers("moves(0, 1)", 1, x -> x.moves(0, 1));
        twins.answers("moves(0, 2)", 2, x -> x.moves(0, 2));
        twins.argument("moves(0, 3), the other one has five", x -> x.moves(0, 3));
        twins.answers("moves(1, 5)", 9, x -> x.moves(1, 5));
        twins.argument("moves(1, 6)", x -> x.moves(1, 6));
        for (int times : new int[] {-1, LEAST, MOST}) {
            twins.argument("moves(0, " + times + ")", x -> x.moves(0, times));
            twins.argument("moves(1, " + times + ")", x -> x.moves(1, times));
        }
        Twins without = new Twins(CHECKS, RadixHearth::new);
        without.answers("moves(0, 0), new", 0, x -> x.moves(0, 0));
        without.argument("moves(0, 1), new", x -> x.moves(0, 1));
        without.argument("moves(1, -1), new", x -> x.moves(1, -1));
    }

    private static void movesNamesTheFirst() {
        Twins twins = new Twins(CHECKS, WouldBeEdgesTest::twoAndFive);
        for (int hearth : new int[] {-1, 2, LEAST, MOST}) {
            twins.outside("moves(" + hearth + ", -1)", x -> x.moves(hearth, -1));
            twins.outside("moves(" + hearth + ", 6)", x -> x.moves(hearth, 6));
        }
    }

    private static void movesOfForty() {
        int[] heats = new int[40];
        Arrays.fill(heats, 512);
        Twins twins = new Twins(CHECKS, () -> lit(heats));
        twins.answers("moves(0, 0)", 0, x -> x.moves(0, 0));
        twins.answers("moves(0, 1)", 40, x -> x.moves(0, 1));
        twins.answers("moves(0, 40)", 40, x -> x.moves(0, 40));
        twins.argument("moves(0, 41)", x -> x.moves(0, 41));
    }

    // As long as the bucket 0 has embers, raking is no move.
    private static void movesOfTheBucket0() {
        RadixHearth x = lit(0, 6, 0, 6, 7);
        CHECKS.due("moves(0, 2)", x.moves(0, 2), 0);
        CHECKS.due("moves(0, 3)", x.moves(0, 3), 3);
        CHECKS.due("moves(0, 4)", x.moves(0, 4), 3);
        CHECKS.due("moves(0, 5)", x.moves(0, 5), 4);
    }

    // "Returns how many moves that would be (nothing is changed)": those made before do not count.
    private static void movesChangesNothing() {
        Twins twins = new Twins(CHECKS, WouldBeEdgesTest::raisedAndRaked);
        int[] due = {0, 0, 1, 2, 4, 4, 5};
        for (int times = 0; times < due.length; times++) {
            int asked = times;
            twins.answers("moves(0, " + times + ")", due[times], x -> x.moves(0, asked));
            RadixHearth x = raisedAndRaked();
            int before = x.count(2);
            for (int done = 0; done < times; done++) {
                x.rake(0);
            }
            CHECKS.due("moves by rake() made " + times + " times", x.count(2) - before, due[times]);
        }
    }

    // Promise 16: "the least heat of its embers".
    private static void highestIsTheLeast() {
        CHECKS.due("highest(0) of 0", lit(700, 0).highest(0), 0);
        CHECKS.due("highest(0) of 1023", lit(1023, 1023).highest(0), 1023);
        CHECKS.due("highest(0) of 1022", lit(1023, 1022).highest(0), 1022);
        int[][] rows = {{600, 700, 800}, {800, 600, 700}, {700, 800, 600}, {600}};
        for (int[] heats : rows) {
            CHECKS.due("highest(0) within a bucket", lit(heats).highest(0), 600);
        }
        RadixHearth x = lit(40, 41, 900);
        x.light(1, 3);
        new Twins(CHECKS, () -> lit(40, 41, 900)).answers("highest(0)", 40, y -> y.highest(0));
        x.quench(0);
        CHECKS.due("highest(0), 40 has gone out", x.highest(0), 41);
        x.rake(0);
        CHECKS.due("highest(0), 41 is raked", x.highest(0), 900);
        CHECKS.due("highest(1)", x.highest(1), 3);
    }

    // "1023 without any", whatever its low is.
    private static void highestWithoutAny() {
        RadixHearth x = lit(5);
        CHECKS.due("highest(1)", x.highest(1), 1023);
        x.rake(0);
        CHECKS.due("highest(0), raked", x.highest(0), 1023);
        x.raise(0, 1023);
        CHECKS.due("highest(0) at 1023", x.highest(0), 1023);
        new Twins(CHECKS, RadixHearth::new).answers("highest(0), new", 1023, y -> y.highest(0));
    }

    // "how far its low could rise by raise()": so far, and no further.
    private static void highestCanBeRaisedTo() {
        int[][] rows = {{}, {0}, {1, 0}, {513, 512, 1000}, {1023}, {77, 300, 78}};
        for (int[] heats : rows) {
            int highest = lit(heats).highest(0);
            RadixHearth x = lit(heats);
            x.raise(0, highest);
            CHECKS.due("about(0, 1)", x.about(0, 1), highest);
            new Twins(CHECKS, () -> lit(heats))
                    .argument("raise(0, " + (highest + 1) + ")", y -> y.raise(0, highest + 1));
        }
    }

    // Promise 17: "-1 without any".
    private static void adviseWithoutAny() {
        new Twins(CHECKS, RadixHearth::new).answers("advise(0), new", -1, x -> x.advise(0));
        new Twins(CHECKS, RadixHearth::new).answers("advise(1), new", -1, x -> x.advise(1));
        RadixHearth x = lit(5, 6);
        CHECKS.due("advise(1)", x.advise(1), -1);
        x.rake(0);
        CHECKS.due("advise(0) of the last one", x.advise(0), 1);
        x.quench(1);
        CHECKS.due("advise(0), all gone out", x.advise(0), -1);
    }

    private static void adviseOfASingleOne() {
        CHECKS.due("advise(0) of the heat 0", lit(0).advise(0), 0);
        CHECKS.due("advise(0) of the heat 1023", lit(1023).advise(0), 0);
    }

    // "of several the one with the smallest number", wherever this one lies.
    private static void adviseTheSmallestNumber() {
        CHECKS.due("advise(0), the smallest lies last", lit(512, 1).advise(0), 0);
        CHECKS.due("advise(0), the smallest lies first", lit(1, 512).advise(0), 0);
        CHECKS.due("advise(0), no moves at all", lit(0, 0, 0).advise(0), 0);
        CHECKS.due("advise(0), 40 alike", lit(new int[40]).advise(0), 0);
        RadixHearth x = lit(9, 9, 9);
        x.fade(0, 8);
        x.fade(0, 1);
        x.quench(1);
        CHECKS.due("advise(0), 1 has gone out", x.advise(0), 0);
        x.quench(0);
        CHECKS.due("advise(0), 0 has gone out too", x.advise(0), 2);
    }

    // Without 30 it is 3 moves (1 for 5, 2 for 27 and 27), without any other one it is 4.
    private static void adviseTheFewestMoves() {
        Twins twins = new Twins(CHECKS, () -> lit(5, 27, 27, 30));
        twins.answers("advise(0)", 3, x -> x.advise(0));
        int[] due = {4, 4, 4, 3};
        for (int ember = 0; ember < due.length; ember++) {
            RadixHearth x = lit(5, 27, 27, 30);
            x.quench(ember);
            CHECKS.due("moves(0, 3) without " + ember, x.moves(0, 3), due[ember]);
        }
        CHECKS.due("advise(0), one at the low is none the better", lit(0, 8, 8, 14).advise(0), 3);
    }

    // "till it is empty": the fewest moves of all, not those of the next raking.
    private static void adviseTillItIsEmpty() {
        int[][] rows = {{24, 8, 27, 10, 29, 20}, {26, 26, 2, 22}, {30, 30, 1, 2, 19}, {23, 23, 7, 7, 28, 5},
                {900, 17, 33, 18, 512, 16, 40, 17}, {1023, 1022, 1020, 1016, 1008, 992, 960, 896, 768, 512}};
        for (int[] heats : rows) {
            CHECKS.due("advise(0)", lit(heats).advise(0), adviceByRaking(heats));
        }
        CHECKS.due("advise(0), the last one", lit(24, 8, 27, 10, 29, 20).advise(0), 5);
    }

    private static int adviceByRaking(int[] heats) {
        int best = -1;
        int fewest = 0;
        for (int ember = heats.length - 1; ember >= 0; ember--) {
            RadixHearth x = lit(heats);
            x.quench(ember);
            for (int done = 1; done < heats.length; done++) {
                x.rake(0);
            }
            if (best < 0 || x.count(2) <= fewest) {
                best = ember;
                fewest = x.count(2);
            }
        }
        return best;
    }

    // "the ember of it": not one of the other hearth, though its number is smaller.
    private static void adviseOfItsOwnHearth() {
        RadixHearth x = lit(512, 513);
        Checks.light(x, 1, 5, 27, 27, 30);
        CHECKS.due("advise(1)", x.advise(1), 5);
        CHECKS.due("advise(0)", x.advise(0), 0);
        x.pour(0);
        CHECKS.due("advise(0), poured out", x.advise(0), -1);
        CHECKS.due("advise(1) of all", x.advise(1) >= 0, true);
    }

    private static void adviseChangesNothing() {
        new Twins(CHECKS, WouldBeEdgesTest::raisedAndRaked).answers("advise(0)", 0, x -> x.advise(0));
        new Twins(CHECKS, WouldBeEdgesTest::raisedAndRaked).answers("advise(1)", 7, x -> x.advise(1));
    }

    // "if hearth is not 0 to 1", with embers and without.
    private static void whatWouldBeOfNoHearth() {
        Twins without = new Twins(CHECKS, RadixHearth::new);
        Twins with = new Twins(CHECKS, WouldBeEdgesTest::twoAndFive);
        for (int hearth : new int[] {-1, 2, LEAST, MOST}) {
            for (Twins twins : List.of(without, with)) {
                twins.outside("next(" + hearth + ", 0)", x -> x.next(hearth, 0));
                twins.outside("next(" + hearth + ", -1)", x -> x.next(hearth, -1));
                twins.outside("moves(" + hearth + ", 0)", x -> x.moves(hearth, 0));
                twins.outside("highest(" + hearth + ")", x -> x.highest(hearth));
                twins.outside("advise(" + hearth + ")", x -> x.advise(hearth));
            }
        }
    }

    // Promise 18: "0 without any".
    private static void meanWithoutAny() {
        new Twins(CHECKS, RadixHearth::new).answers("mean(), new", 0.0, x -> x.mean());
        RadixHearth x = lit(5, 6);
        x.rake(0);
        CHECKS.due("mean() of the last one", x.mean(), 6.0);
        x.quench(1);
        CHECKS.due("mean(), all gone out", x.mean(), 0.0);
        x.light(1, 0);
        CHECKS.due("mean() of the heat 0", x.mean(), 0.0);
    }

    private static void meanIsNotCut() {
        CHECKS.due("mean() of 0, 1", lit(0, 1).mean(), 0.5);
        CHECKS.due("mean() of 0, 0, 1", lit(0, 0, 1).mean(), 1.0 / 3.0);
        CHECKS.due("mean() of 1, 1, 0", lit(1, 1, 0).mean(), 2.0 / 3.0);
        CHECKS.due("mean() of seven", lit(1023, 1, 2, 3, 4, 5, 6).mean(), 1044.0 / 7.0);
        new Twins(CHECKS, () -> lit(1000, 3)).answers("mean()", 501.5, x -> x.mean());
    }

    private static void meanOfTheHottestAndTheColdest() {
        int[] heats = new int[40];
        CHECKS.due("mean() of 40 of the heat 0", lit(heats).mean(), 0.0);
        Arrays.fill(heats, 1023);
        CHECKS.due("mean() of 40 of the heat 1023", lit(heats).mean(), 1023.0);
        heats[39] = 1022;
        CHECKS.due("mean() of 40, one of the heat 1022", lit(heats).mean(), 40919.0 / 40.0);
    }

    // "of all embers that lie in hearths": of both, and of none that has gone out.
    private static void meanOfThoseThatLie() {
        RadixHearth x = lit(10, 20);
        Checks.light(x, 1, 3, 1000);
        CHECKS.due("mean() of both hearths", x.mean(), 258.25);
        x.quench(3);
        CHECKS.due("mean() without the one put out", x.mean(), 11.0);
        x.rake(1);
        CHECKS.due("mean() without the one raked", x.mean(), 15.0);
        x.pour(0);
        CHECKS.due("mean() after pour()", x.mean(), 15.0);
        x.fade(1, 11);
        CHECKS.due("mean() after fade()", x.mean(), 10.5);
    }

    // Promise 19: "A number d starts with 1489"; of a new object 39 numbers follow.
    private static void digestStartsWith1489() {
        new Twins(CHECKS, RadixHearth::new).answers("digest(), new", 3716287367033797423L, x -> x.digest());
        CHECKS.due("numbers of a new object", numbersOf(new RadixHearth()).size(), 39);
    }

    // The numbers were counted out apart from the program.
    private static void digestOfFewEmbers() {
        RadixHearth one = new RadixHearth();
        one.light(1, 0);
        CHECKS.due("digest(), the heat 0 in the hearth 0", lit(0).digest(), -1895937349138545524L);
        CHECKS.due("digest(), the heat 0 in the hearth 1", one.digest(), -5501515238866640529L);
        CHECKS.due("digest(), the heat 1023", lit(1023).digest(), -5480809779937671468L);
        CHECKS.due("digest(), the heat 7", lit(7).digest(), -5327160591213934817L);
        RadixHearth three = lit(7, 9);
        three.light(1, 1023);
        CHECKS.due("digest(), three embers", three.digest(), -5677824918562176674L);
        int[] heats = new int[40];
        Arrays.fill(heats, 1023);
        CHECKS.due("digest(), 40 embers", lit(heats).digest(), 8043966100707116843L);
    }

    // "which wraps around as a 64-bit integer": d itself grows far beyond 64 bits, and comes out below 0 or above.
    private static void digestWrapsAround() {
        boolean below = false;
        boolean above = false;
        for (int embers = 0; embers <= 40; embers++) {
            RadixHearth x = spreadOver(embers);
            BigInteger grown = grownDigest(x);
            CHECKS.due("d is larger than 64 bits", grown.bitLength() > 64, true);
            BigInteger wrapped = grown.mod(ROUND);
            BigInteger signed = wrapped.testBit(63) ? wrapped.subtract(ROUND) : wrapped;
            long digest = x.digest();
            CHECKS.due("digest() with " + embers, BigInteger.valueOf(digest), signed);
            below |= digest < Integer.MIN_VALUE;
            above |= digest > Integer.MAX_VALUE;
        }
        CHECKS.due("some are below 0", below, true);
        CHECKS.due("some are above 0", above, true);
    }

    private static RadixHearth spreadOver(int embers) {
        RadixHearth x = new RadixHearth();
        for (int ember = 0; ember < embers; ember++) {
            x.light(ember % 2, 25 * ember);
        }
        if (embers > 20) {
            x.rake(1);
            x.quench(20);
        }
        return x;
    }

    private static BigInteger grownDigest(RadixHearth x) {
        BigInteger d = BigInteger.valueOf(1489);
        for (int number : numbersOf(x)) {
            d = d.multiply(BigInteger.valueOf(31)).add(BigInteger.valueOf(number));
        }
        return d;
    }

    private static List<Integer> numbersOf(RadixHearth x) {
        List<Integer> numbers = new ArrayList<>();
        for (int what = 0; what < 5; what++) {
            numbers.add(x.count(what));
        }
        for (int hearth = 0; hearth < 2; hearth++) {
            for (int what = 0; what < 6; what++) {
                numbers.add(x.about(hearth, what));
            }
            for (int bucket = 0; bucket < 11; bucket++) {
                int many = x.many(hearth, bucket);
                numbers.add(many);
                for (int place = 0; place < many; place++) {
                    numbers.add(x.lies(hearth, bucket, place));
                }
            }
        }
        int lit = numbers.get(0);
        for (int ember = 0; ember < lit; ember++) {
            for (int what = 0; what < 5; what++) {
                numbers.add(x.told(ember, what));
            }
        }
        return numbers;
    }

    // Two objects of which but one number is told otherwise.
    private static void digestTellsEachNumber() {
        RadixHearth x = lit(9, 8);
        long before = x.digest();
        CHECKS.due("digest() again", x.digest(), before);
        x.fade(0, 8);
        CHECKS.due("digest() with another heat and order", x.digest() == before, false);
        RadixHearth raised = new RadixHearth();
        raised.raise(1, 1);
        CHECKS.due("digest() with another low", raised.digest() == new RadixHearth().digest(), false);
        RadixHearth raked = lit(0);
        raked.rake(0);
        RadixHearth quenched = lit(0);
        quenched.quench(0);
        CHECKS.due("digests, raked and put out", raked.digest() == quenched.digest(), false);
        RadixHearth poured = lit(8);
        poured.pour(0);
        RadixHearth other = new RadixHearth();
        other.light(1, 8);
        CHECKS.due("digests, poured and lit", poured.digest() == other.digest(), false);
    }
}
