/**
 * Objects made alike: a call that changes nothing is made on one of them, and all that this one answers
 * afterwards is compared with what the other one answers, on which the call was not made.
 */
final class Twins {
    private final Checks checks;
    private final Maker maker;

    /** Makes an object, and brings it to where the call is tried. */
    interface Maker {
        RadixHearth make();
    }

    /** A call on an object that is handed in. */
    interface Call {
        Object on(RadixHearth hearths);
    }

    Twins(Checks checks, Maker maker) {
        this.checks = checks;
        this.maker = maker;
    }

    void outside(String call, Call made) {
        tried(call, IndexOutOfBoundsException.class.getName(), made);
    }

    void argument(String call, Call made) {
        tried(call, IllegalArgumentException.class.getName(), made);
    }

    void state(String call, Call made) {
        tried(call, IllegalStateException.class.getName(), made);
    }

    /** The call answers this, and changes nothing. */
    void answers(String call, Object want, Call made) {
        tried(call, want, made);
    }

    private void tried(String call, Object want, Call made) {
        RadixHearth asked = maker.make();
        RadixHearth twin = maker.make();
        checks.due(call, answerOf(call, asked, made), want);
        String after = Snapshot.of(asked);
        String without = Snapshot.of(twin);
        if (!after.equals(without)) {
            checks.due("all answers after " + call, after, without);
        }
    }

    private Object answerOf(String call, RadixHearth asked, Call made) {
        try {
            return made.on(asked);
        } catch (RuntimeException thrown) {
            checks.due(call + " throws by a throw statement", Checks.thrownBy(thrown), true);
            return thrown.getClass().getName();
        }
    }
}
