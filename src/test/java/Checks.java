import java.util.Objects;

/** Compares answers with those that are due, and ends the program with code 1 if one was wrong. */
final class Checks {
    private static final Class<?> OUTSIDE = IndexOutOfBoundsException.class;
    private static final Class<?> ARGUMENT = IllegalArgumentException.class;
    private static final Class<?> STATE = IllegalStateException.class;

    private int wrong;

    /** A call whose answer is compared. */
    interface Call {
        Object answer();
    }

    void due(String call, Object got, Object want) {
        if (!Objects.equals(got, want)) {
            wrong++;
            System.out.println(call + " answered " + got + ", due is " + want);
        }
    }

    void refusedOutside(RadixHearth hearths, String call, Call made) {
        refused(hearths, call, OUTSIDE, made);
    }

    void refusedArgument(RadixHearth hearths, String call, Call made) {
        refused(hearths, call, ARGUMENT, made);
    }

    void refusedState(RadixHearth hearths, String call, Call made) {
        refused(hearths, call, STATE, made);
    }

    /** The call throws just this exception by a throw statement of the class, and changes nothing. */
    private void refused(RadixHearth hearths, String call, Class<?> due, Call made) {
        long before = hearths.digest();
        String got;
        try {
            got = "answer " + made.answer();
        } catch (RuntimeException thrown) {
            got = thrown.getClass().getName();
            due(call + " throws from", thrownBy(thrown), true);
        }
        due(call, got, due.getName());
        due("digest() after " + call, hearths.digest(), before);
    }

    /** Whether the class itself threw, rather than the machine or the library in it. */
    static boolean thrownBy(RuntimeException thrown) {
        StackTraceElement[] trace = thrown.getStackTrace();
        String text = String.valueOf(thrown.getMessage());
        return trace.length > 0
                && trace[0].getClassName().startsWith("RadixHearth")
                && !text.contains("out of bounds for");
    }

    /** Compares the embers of a bucket, in their order. */
    void bucketDue(RadixHearth hearths, int hearth, int bucket, int... want) {
        String name = "bucket " + bucket + " of hearth " + hearth;
        due("size of " + name, hearths.many(hearth, bucket), want.length);
        for (int place = 0; place < want.length && place < hearths.many(hearth, bucket); place++) {
            due("place " + place + " of " + name, hearths.lies(hearth, bucket, place), want[place]);
        }
    }

    /** Compares all that told() tells of an ember. */
    void toldDue(RadixHearth hearths, int ember, int... want) {
        for (int what = 0; what < want.length; what++) {
            due("told(" + ember + ", " + what + ")", hearths.told(ember, what), want[what]);
        }
    }

    /** Compares all that about() tells of a hearth. */
    void aboutDue(RadixHearth hearths, int hearth, int... want) {
        for (int what = 0; what < want.length; what++) {
            due("about(" + hearth + ", " + what + ")", hearths.about(hearth, what), want[what]);
        }
    }

    /** Compares all that count() tells. */
    void countDue(RadixHearth hearths, int... want) {
        for (int what = 0; what < want.length; what++) {
            due("count(" + what + ")", hearths.count(what), want[what]);
        }
    }

    static void light(RadixHearth hearths, int hearth, int... heats) {
        for (int heat : heats) {
            hearths.light(hearth, heat);
        }
    }

    void end(String test) {
        System.out.println(test + ": " + (wrong == 0 ? "all answers are as due" : wrong + " answers are not as due"));
        if (wrong != 0) {
            System.exit(1);
        }
    }
}
