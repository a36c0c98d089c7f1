import java.util.ArrayList;
import java.util.List;

/** The document once more, as plainly as lists allow; it shares no code and no idea with the class. */
final class Model {
    static final class Ember {
        int heat;
        int hearth;
        int moved;
        boolean raked;
    }

    final List<Ember> embers = new ArrayList<>();
    final List<List<List<Integer>>> buckets = new ArrayList<>();
    final int[] low = new int[2];
    final int[] rakes = new int[2];
    int moves;
    int quenched;

    Model() {
        for (int hearth = 0; hearth < 2; hearth++) {
            List<List<Integer>> rows = new ArrayList<>();
            for (int bucket = 0; bucket < 11; bucket++) {
                rows.add(new ArrayList<>());
            }
            buckets.add(rows);
        }
    }

    Model copy() {
        Model other = new Model();
        for (Ember ember : embers) {
            Ember twin = new Ember();
            twin.heat = ember.heat;
            twin.hearth = ember.hearth;
            twin.moved = ember.moved;
            twin.raked = ember.raked;
            other.embers.add(twin);
        }
        for (int hearth = 0; hearth < 2; hearth++) {
            for (int bucket = 0; bucket < 11; bucket++) {
                other.buckets.get(hearth).get(bucket).addAll(buckets.get(hearth).get(bucket));
            }
            other.low[hearth] = low[hearth];
            other.rakes[hearth] = rakes[hearth];
        }
        other.moves = moves;
        other.quenched = quenched;
        return other;
    }

    int bucketFor(int hearth, int heat) {
        return 32 - Integer.numberOfLeadingZeros(low[hearth] ^ heat);
    }

    void put(int ember, int hearth) {
        Ember put = embers.get(ember);
        put.hearth = hearth;
        buckets.get(hearth).get(bucketFor(hearth, put.heat)).add(ember);
    }

    void move(int ember, int hearth) {
        put(ember, hearth);
        embers.get(ember).moved++;
        moves++;
    }

    int whereIs(int ember) {
        if (embers.get(ember).hearth < 0) {
            return -1;
        }
        for (int bucket = 0; bucket < 11; bucket++) {
            if (buckets.get(embers.get(ember).hearth).get(bucket).contains(ember)) {
                return bucket;
            }
        }
        throw new AssertionError("ember " + ember + " lies nowhere");
    }

    List<Integer> all(int hearth) {
        List<Integer> found = new ArrayList<>();
        for (List<Integer> bucket : buckets.get(hearth)) {
            found.addAll(bucket);
        }
        return found;
    }

    int least(int hearth) {
        int least = 1023;
        for (int ember : all(hearth)) {
            least = Math.min(least, embers.get(ember).heat);
        }
        return least;
    }

    private void checkHearth(int hearth) {
        if (hearth < 0 || hearth > 1) {
            throw new IndexOutOfBoundsException();
        }
    }

    private void checkEmber(int ember) {
        if (ember < 0 || ember >= embers.size()) {
            throw new IndexOutOfBoundsException();
        }
    }

    private void checkWithin(int number, int end) {
        if (number < 0 || number >= end) {
            throw new IndexOutOfBoundsException();
        }
    }

    int light(int hearth, int heat) {
        checkHearth(hearth);
        if (heat < low[hearth] || heat > 1023) {
            throw new IllegalArgumentException();
        }
        if (embers.size() == 40) {
            throw new IllegalStateException();
        }
        Ember ember = new Ember();
        ember.heat = heat;
        embers.add(ember);
        put(embers.size() - 1, hearth);
        return embers.size() - 1;
    }

    int fade(int ember, int heat) {
        checkEmber(ember);
        Ember faded = embers.get(ember);
        if (faded.hearth < 0) {
            throw new IllegalStateException();
        }
        if (heat < low[faded.hearth] || heat > faded.heat - 1) {
            throw new IllegalArgumentException();
        }
        buckets.get(faded.hearth).get(whereIs(ember)).remove(Integer.valueOf(ember));
        faded.heat = heat;
        put(ember, faded.hearth);
        return whereIs(ember);
    }

    int quench(int ember) {
        checkEmber(ember);
        Ember out = embers.get(ember);
        if (out.hearth < 0) {
            throw new IllegalStateException();
        }
        int bucket = whereIs(ember);
        buckets.get(out.hearth).get(bucket).remove(Integer.valueOf(ember));
        out.hearth = -1;
        quenched++;
        return bucket;
    }

    int rake(int hearth) {
        checkHearth(hearth);
        if (all(hearth).isEmpty()) {
            throw new IllegalStateException();
        }
        List<List<Integer>> rows = buckets.get(hearth);
        if (rows.get(0).isEmpty()) {
            int first = 0;
            while (rows.get(first).isEmpty()) {
                first++;
            }
            low[hearth] = least(hearth);
            List<Integer> spread = new ArrayList<>(rows.get(first));
            rows.get(first).clear();
            for (int ember : spread) {
                move(ember, hearth);
            }
        }
        int ember = rows.get(0).remove(0);
        embers.get(ember).hearth = -1;
        embers.get(ember).raked = true;
        rakes[hearth]++;
        return ember;
    }

    int raise(int hearth, int to) {
        checkHearth(hearth);
        if (to < low[hearth] || to > 1023 || to > least(hearth)) {
            throw new IllegalArgumentException();
        }
        if (to == low[hearth]) {
            return 0;
        }
        List<Integer> taken = all(hearth);
        for (List<Integer> bucket : buckets.get(hearth)) {
            bucket.clear();
        }
        low[hearth] = to;
        for (int ember : taken) {
            move(ember, hearth);
        }
        return taken.size();
    }

    int pour(int hearth) {
        checkHearth(hearth);
        List<Integer> poured = all(hearth);
        for (int ember : poured) {
            if (embers.get(ember).heat < low[1 - hearth]) {
                throw new IllegalStateException();
            }
        }
        for (List<Integer> bucket : buckets.get(hearth)) {
            bucket.clear();
        }
        for (int ember : poured) {
            move(ember, 1 - hearth);
        }
        low[hearth] = 0;
        return poured.size();
    }

    int many(int hearth, int bucket) {
        checkHearth(hearth);
        checkWithin(bucket, 11);
        return buckets.get(hearth).get(bucket).size();
    }

    int lies(int hearth, int bucket, int place) {
        checkHearth(hearth);
        checkWithin(bucket, 11);
        checkWithin(place, buckets.get(hearth).get(bucket).size());
        return buckets.get(hearth).get(bucket).get(place);
    }

    int bucketOf(int hearth, int heat) {
        checkHearth(hearth);
        if (heat < low[hearth] || heat > 1023) {
            throw new IllegalArgumentException();
        }
        return bucketFor(hearth, heat);
    }

    int about(int hearth, int what) {
        checkHearth(hearth);
        checkWithin(what, 6);
        int first = -1;
        int last = -1;
        for (int bucket = 0; bucket < 11; bucket++) {
            if (!buckets.get(hearth).get(bucket).isEmpty()) {
                first = first < 0 ? bucket : first;
                last = bucket;
            }
        }
        int most = -1;
        for (int ember : all(hearth)) {
            most = Math.max(most, embers.get(ember).heat);
        }
        return new int[] {all(hearth).size(), low[hearth], first, last, rakes[hearth], most}[what];
    }

    int told(int ember, int what) {
        checkEmber(ember);
        checkWithin(what, 5);
        Ember asked = embers.get(ember);
        return new int[] {asked.heat, asked.hearth, whereIs(ember), asked.moved, asked.raked ? 1 : 0}[what];
    }

    int count(int what) {
        checkWithin(what, 5);
        int lying = all(0).size() + all(1).size();
        return new int[] {embers.size(), lying, moves, rakes[0] + rakes[1], quenched}[what];
    }

    int next(int hearth, int place) {
        checkHearth(hearth);
        checkWithin(place, all(hearth).size());
        Model twin = copy();
        for (int done = 0; done < place; done++) {
            twin.rake(hearth);
        }
        return twin.rake(hearth);
    }

    int moves(int hearth, int times) {
        checkHearth(hearth);
        if (times < 0 || times > all(hearth).size()) {
            throw new IllegalArgumentException();
        }
        Model twin = copy();
        for (int done = 0; done < times; done++) {
            twin.rake(hearth);
        }
        return twin.moves - moves;
    }

    int highest(int hearth) {
        checkHearth(hearth);
        return least(hearth);
    }

    int advise(int hearth) {
        checkHearth(hearth);
        int best = -1;
        int fewest = Integer.MAX_VALUE;
        for (int ember = 0; ember < embers.size(); ember++) {
            if (embers.get(ember).hearth != hearth) {
                continue;
            }
            Model twin = copy();
            twin.quench(ember);
            int needed = twin.moves(hearth, twin.all(hearth).size());
            if (needed < fewest) {
                best = ember;
                fewest = needed;
            }
        }
        return best;
    }

    double mean() {
        int lying = 0;
        double sum = 0;
        for (Ember ember : embers) {
            if (ember.hearth >= 0) {
                lying++;
                sum += ember.heat;
            }
        }
        return lying == 0 ? 0 : sum / lying;
    }

    long digest() {
        List<Integer> told = new ArrayList<>();
        for (int what = 0; what < 5; what++) {
            told.add(count(what));
        }
        for (int hearth = 0; hearth < 2; hearth++) {
            for (int what = 0; what < 6; what++) {
                told.add(about(hearth, what));
            }
            for (List<Integer> bucket : buckets.get(hearth)) {
                told.add(bucket.size());
                told.addAll(bucket);
            }
        }
        for (int ember = 0; ember < embers.size(); ember++) {
            for (int what = 0; what < 5; what++) {
                told.add(told(ember, what));
            }
        }
        long sum = 1489;
        for (int number : told) {
            sum = sum * 31 + number;
        }
        return sum;
    }
}
