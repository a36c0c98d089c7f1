/** All that an object answers, as one text; with 40 embers these are some 370 calls of the 512. */
final class Snapshot {
    private final RadixHearth hearths;
    private final StringBuilder text = new StringBuilder();

    private Snapshot(RadixHearth hearths) {
        this.hearths = hearths;
    }

    static String of(RadixHearth hearths) {
        Snapshot taken = new Snapshot(hearths);
        int lit = hearths.count(0);
        taken.note("lit", lit);
        for (int what = 1; what < 5; what++) {
            taken.note("count " + what, hearths.count(what));
        }
        for (int hearth = 0; hearth < 2; hearth++) {
            taken.hearth(hearth);
        }
        for (int ember = 0; ember < lit; ember++) {
            for (int what = 0; what < 5; what++) {
                taken.note("told " + ember + " " + what, hearths.told(ember, what));
            }
        }
        taken.note("mean", hearths.mean());
        taken.note("digest", hearths.digest());
        return taken.text.toString();
    }

    private void hearth(int hearth) {
        int size = hearths.about(hearth, 0);
        note("embers of " + hearth, size);
        for (int what = 1; what < 6; what++) {
            note("about " + hearth + " " + what, hearths.about(hearth, what));
        }
        for (int bucket = 0; bucket < 11; bucket++) {
            int many = hearths.many(hearth, bucket);
            note("many " + hearth + " " + bucket, many);
            for (int place = 0; place < many; place++) {
                note("lies " + hearth + " " + bucket + " " + place, hearths.lies(hearth, bucket, place));
            }
        }
        for (int place = 0; place < size; place++) {
            note("next " + hearth + " " + place, hearths.next(hearth, place));
        }
        for (int times = 0; times <= size; times++) {
            note("moves " + hearth + " " + times, hearths.moves(hearth, times));
        }
        note("highest " + hearth, hearths.highest(hearth));
        note("advise " + hearth, hearths.advise(hearth));
    }

    private void note(String what, Object answer) {
        text.append(what).append(": ").append(answer).append('\n');
    }
}
