/** Promises 1 to 5: a new object, light, fade, quench, rake. */
public final class EmbersTest {
    private static final Checks CHECKS = new Checks();

    public static void main(String[] args) {
        promise01NewObject();
        promise02Light();
        promise02LightRefuses();
        promise03Fade();
        promise03FadeRefuses();
        promise04Quench();
        promise04QuenchRefuses();
        promise05Rake();
        promise05RakeSpreadsInOrder();
        promise05RakeRefuses();
        CHECKS.end("EmbersTest");
    }

    private static void promise01NewObject() {
        RadixHearth x = new RadixHearth();
        CHECKS.countDue(x, 0, 0, 0, 0, 0);
        for (int hearth = 0; hearth < 2; hearth++) {
            CHECKS.aboutDue(x, hearth, 0, 0, -1, -1, 0, -1);
            for (int bucket = 0; bucket < 11; bucket++) {
                CHECKS.bucketDue(x, hearth, bucket);
            }
        }
        RadixHearth other = new RadixHearth();
        other.light(0, 7);
        CHECKS.due("embers of an object after another was used", x.count(0), 0);
    }

    private static void promise02Light() {
        RadixHearth x = new RadixHearth();
        CHECKS.due("light(0, 0)", x.light(0, 0), 0);
        CHECKS.due("light(0, 1023)", x.light(0, 1023), 1);
        CHECKS.due("light(1, 512)", x.light(1, 512), 2);
        CHECKS.due("light(0, 511)", x.light(0, 511), 3);
        CHECKS.due("light(0, 1)", x.light(0, 1), 4);
        CHECKS.due("light(0, 600)", x.light(0, 600), 5);
        CHECKS.due("light(0, 0)", x.light(0, 0), 6);
        CHECKS.bucketDue(x, 0, 0, 0, 6);
        CHECKS.bucketDue(x, 0, 1, 4);
        CHECKS.bucketDue(x, 0, 9, 3);
        CHECKS.bucketDue(x, 0, 10, 1, 5);
        CHECKS.bucketDue(x, 1, 10, 2);
        CHECKS.toldDue(x, 2, 512, 1, 10, 0, 0);
        CHECKS.countDue(x, 7, 7, 0, 0, 0);
    }

    private static void promise02LightRefuses() {
        RadixHearth x = new RadixHearth();
        x.raise(1, 20);
        CHECKS.refusedOutside(x, "light(-1, 5)", () -> x.light(-1, 5));
        CHECKS.refusedOutside(x, "light(2, -1)", () -> x.light(2, -1));
        CHECKS.refusedArgument(x, "light(0, -1)", () -> x.light(0, -1));
        CHECKS.refusedArgument(x, "light(0, 1024)", () -> x.light(0, 1024));
        CHECKS.refusedArgument(x, "light(1, 19)", () -> x.light(1, 19));
        CHECKS.due("light(1, 20)", x.light(1, 20), 0);
        for (int ember = 1; ember < 40; ember++) {
            CHECKS.due("light of ember " + ember, x.light(0, ember), ember);
        }
        CHECKS.refusedState(x, "light(0, 5) after 40", () -> x.light(0, 5));
        CHECKS.refusedArgument(x, "light(1, 19) after 40", () -> x.light(1, 19));
        CHECKS.refusedOutside(x, "light(2, 5) after 40", () -> x.light(2, 5));
        x.quench(3);
        CHECKS.refusedState(x, "light(0, 5) after 40, one of them out", () -> x.light(0, 5));
    }

    private static void promise03Fade() {
        RadixHearth x = new RadixHearth();
        Checks.light(x, 0, 12, 9, 14, 100);
        Checks.light(x, 1, 700);
        CHECKS.due("fade(0, 10)", x.fade(0, 10), 4);
        CHECKS.bucketDue(x, 0, 4, 1, 2, 0);
        CHECKS.due("fade(3, 11)", x.fade(3, 11), 4);
        CHECKS.bucketDue(x, 0, 4, 1, 2, 0, 3);
        CHECKS.bucketDue(x, 0, 7);
        CHECKS.due("fade(1, 0)", x.fade(1, 0), 0);
        CHECKS.due("fade(4, 0)", x.fade(4, 0), 0);
        CHECKS.bucketDue(x, 0, 0, 1);
        CHECKS.bucketDue(x, 1, 0, 4);
        CHECKS.toldDue(x, 3, 11, 0, 4, 0, 0);
        CHECKS.countDue(x, 5, 5, 0, 0, 0);
    }

    private static void promise03FadeRefuses() {
        RadixHearth x = new RadixHearth();
        x.raise(0, 8);
        Checks.light(x, 0, 8, 30, 9);
        x.quench(2);
        CHECKS.refusedOutside(x, "fade(-1, 0)", () -> x.fade(-1, 0));
        CHECKS.refusedOutside(x, "fade(3, 0)", () -> x.fade(3, 0));
        CHECKS.refusedState(x, "fade(2, 8)", () -> x.fade(2, 8));
        CHECKS.refusedState(x, "fade(2, 5000)", () -> x.fade(2, 5000));
        CHECKS.refusedArgument(x, "fade(1, 30)", () -> x.fade(1, 30));
        CHECKS.refusedArgument(x, "fade(1, 31)", () -> x.fade(1, 31));
        CHECKS.refusedArgument(x, "fade(1, 7)", () -> x.fade(1, 7));
        CHECKS.refusedArgument(x, "fade(0, 8)", () -> x.fade(0, 8));
        CHECKS.due("fade(1, 29)", x.fade(1, 29), 5);
        CHECKS.due("fade(1, 8)", x.fade(1, 8), 0);
        x.rake(0);
        CHECKS.refusedState(x, "fade(0, 8) of a raked one", () -> x.fade(0, 8));
    }

    private static void promise04Quench() {
        RadixHearth x = new RadixHearth();
        Checks.light(x, 0, 5, 6, 7);
        Checks.light(x, 1, 0);
        CHECKS.due("quench(1)", x.quench(1), 3);
        CHECKS.bucketDue(x, 0, 3, 0, 2);
        CHECKS.due("quench(3)", x.quench(3), 0);
        CHECKS.toldDue(x, 1, 6, -1, -1, 0, 0);
        CHECKS.toldDue(x, 3, 0, -1, -1, 0, 0);
        CHECKS.countDue(x, 4, 2, 0, 0, 2);
        CHECKS.aboutDue(x, 1, 0, 0, -1, -1, 0, -1);
        CHECKS.due("light(0, 4) after quench()", x.light(0, 4), 4);
    }

    private static void promise04QuenchRefuses() {
        RadixHearth x = new RadixHearth();
        CHECKS.refusedOutside(x, "quench(0) without embers", () -> x.quench(0));
        Checks.light(x, 0, 5, 6);
        CHECKS.refusedOutside(x, "quench(-1)", () -> x.quench(-1));
        CHECKS.refusedOutside(x, "quench(2)", () -> x.quench(2));
        x.quench(1);
        CHECKS.refusedState(x, "quench(1) again", () -> x.quench(1));
        x.rake(0);
        CHECKS.refusedState(x, "quench(0) after it was raked", () -> x.quench(0));
    }

    private static void promise05Rake() {
        RadixHearth x = new RadixHearth();
        Checks.light(x, 1, 0, 64, 64, 3);
        CHECKS.due("rake(1)", x.rake(1), 0);
        CHECKS.aboutDue(x, 1, 3, 0, 2, 7, 1, 64);
        CHECKS.countDue(x, 4, 3, 0, 1, 0);
        CHECKS.due("rake(1)", x.rake(1), 3);
        CHECKS.aboutDue(x, 1, 2, 3, 7, 7, 2, 64);
        CHECKS.toldDue(x, 3, 3, -1, -1, 1, 1);
        CHECKS.due("rake(1)", x.rake(1), 1);
        CHECKS.due("rake(1)", x.rake(1), 2);
        CHECKS.aboutDue(x, 1, 0, 64, -1, -1, 4, -1);
        CHECKS.countDue(x, 4, 0, 3, 4, 0);
        CHECKS.aboutDue(x, 0, 0, 0, -1, -1, 0, -1);
    }

    private static void promise05RakeSpreadsInOrder() {
        RadixHearth x = new RadixHearth();
        Checks.light(x, 0, 50, 33, 40, 32, 35, 34, 48, 32, 200);
        CHECKS.due("rake(0)", x.rake(0), 3);
        CHECKS.due("low", x.about(0, 1), 32);
        CHECKS.bucketDue(x, 0, 0, 7);
        CHECKS.bucketDue(x, 0, 1, 1);
        CHECKS.bucketDue(x, 0, 2, 4, 5);
        CHECKS.bucketDue(x, 0, 4, 2);
        CHECKS.bucketDue(x, 0, 5, 0, 6);
        CHECKS.bucketDue(x, 0, 8, 8);
        CHECKS.due("moves", x.count(2), 8);
        CHECKS.due("moves of the hot one", x.told(8, 3), 0);
    }

    private static void promise05RakeRefuses() {
        RadixHearth x = new RadixHearth();
        CHECKS.refusedOutside(x, "rake(-1)", () -> x.rake(-1));
        CHECKS.refusedOutside(x, "rake(2)", () -> x.rake(2));
        CHECKS.refusedState(x, "rake(0) of a new object", () -> x.rake(0));
        x.light(1, 1023);
        CHECKS.refusedState(x, "rake(0), the other one has some", () -> x.rake(0));
        CHECKS.due("rake(1)", x.rake(1), 0);
        CHECKS.refusedState(x, "rake(1) of the empty one", () -> x.rake(1));
    }
}
