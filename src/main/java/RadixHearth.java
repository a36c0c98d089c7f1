/** A hearth of embers in buckets: two radix heaps, between which embers are poured. */
public final class RadixHearth {

    private static final int HEARTHS = 2;
    private static final int MOST_EMBERS = 40;
    private static final int MOST_HEAT = 1023;
    private static final int BUCKETS = 11;
    private static final int NONE = -1;

    private static final int COUNTS = 5;
    private static final int ABOUTS = 6;
    private static final int TOLDS = 5;

    private static final long DIGEST_START = 1489L;
    private static final long DIGEST_FACTOR = 31L;

    private final Embers embers = new Embers();
    private final Hearth zero = new Hearth(embers, true);
    private final Hearth one = new Hearth(embers, true);
    // What would be is tried out here; it is kept, so that no call makes objects.
    private final Hearth trial = new Hearth(embers, false);
    private int quenched;

    /** Creates two hearths without embers. */
    public RadixHearth() {
    }

    // ---- embers

    /** Lights an ember, and returns its number. */
    public int light(int hearth, int heat)
            throws IndexOutOfBoundsException, IllegalArgumentException, IllegalStateException {
        Hearth home = hearthOf(hearth);
        if (!home.takesHeat(heat)) {
            throw new IllegalArgumentException("the heat is not the low of the hearth to 1023");
        }
        if (embers.lit() >= MOST_EMBERS) {
            throw new IllegalStateException("40 embers were lit");
        }
        int ember = embers.add(heat, hearth);
        home.put(ember);
        return ember;
    }

    /** Lets an ember fade to a lesser heat, and returns its bucket then. */
    public int fade(int ember, int heat)
            throws IndexOutOfBoundsException, IllegalStateException, IllegalArgumentException {
        Hearth home = homeOfBurning(ember);
        if (heat < home.low() || heat >= embers.heatOf(ember)) {
            throw new IllegalArgumentException("the heat is not the low of the hearth to 1 less than it was");
        }
        home.takeOut(ember);
        embers.setHeat(ember, heat);
        home.put(ember);
        return home.bucketFor(heat);
    }

    /** Puts an ember out without raking it, and returns the bucket in which it lay. */
    public int quench(int ember) throws IndexOutOfBoundsException, IllegalStateException {
        Hearth home = homeOfBurning(ember);
        int bucket = home.bucketFor(embers.heatOf(ember));
        home.takeOut(ember);
        embers.goOut(ember, false);
        quenched++;
        return bucket;
    }

    /** Rakes a hearth, and returns the ember that is raked. */
    public int rake(int hearth) throws IndexOutOfBoundsException, IllegalStateException {
        Hearth raked = hearthOf(hearth);
        if (raked.size() == 0) {
            throw new IllegalStateException("the hearth has no embers");
        }
        int ember = raked.rakeOnce();
        embers.goOut(ember, true);
        return ember;
    }

    // ---- hearths

    /** Lets the low of a hearth rise, and returns how many moves this is. */
    public int raise(int hearth, int low) throws IndexOutOfBoundsException, IllegalArgumentException {
        Hearth raised = hearthOf(hearth);
        if (low < raised.low() || low > raised.leastHeat()) {
            throw new IllegalArgumentException("the low can not become this");
        }
        return low == raised.low() ? 0 : raised.riseTo(low);
    }

    /** Pours all embers of a hearth into the other one, and returns how many moves this is. */
    public int pour(int hearth) throws IndexOutOfBoundsException, IllegalStateException {
        Hearth from = hearthOf(hearth);
        int other = HEARTHS - 1 - hearth;
        Hearth into = hearthOf(other);
        if (from.size() > 0 && from.leastHeat() < into.low()) {
            throw new IllegalStateException("an ember is less hot than the low of the other hearth");
        }
        Row poured = from.pourOut();
        int many = poured.size();
        for (int place = 0; place < many; place++) {
            embers.setHome(poured.at(place), other);
        }
        return into.moveIn(poured);
    }

    /** Returns how many embers lie in a bucket. */
    public int many(int hearth, int bucket) throws IndexOutOfBoundsException {
        Hearth asked = hearthOf(hearth);
        refuseBucket(bucket);
        return asked.sizeOf(bucket);
    }

    /** Returns the ember that lies at a place of a bucket. */
    public int lies(int hearth, int bucket, int place) throws IndexOutOfBoundsException {
        Hearth asked = hearthOf(hearth);
        refuseBucket(bucket);
        if (place < 0 || place >= asked.sizeOf(bucket)) {
            throw new IndexOutOfBoundsException("the bucket has no such place");
        }
        return asked.emberAt(bucket, place);
    }

    /** Returns the bucket into which an ember of this heat would come. */
    public int bucketOf(int hearth, int heat) throws IndexOutOfBoundsException, IllegalArgumentException {
        Hearth asked = hearthOf(hearth);
        if (!asked.takesHeat(heat)) {
            throw new IllegalArgumentException("the heat is not the low of the hearth to 1023");
        }
        return asked.bucketFor(heat);
    }

    /** Tells of a hearth. */
    public int about(int hearth, int what) throws IndexOutOfBoundsException {
        Hearth asked = hearthOf(hearth);
        switch (what) {
            case 0:
                return asked.size();
            case 1:
                return asked.low();
            case 2:
                return asked.firstBucket();
            case 3:
                return asked.lastBucket();
            case 4:
                return asked.rakes();
            case 5:
                return asked.mostHeat();
            default:
                throw new IndexOutOfBoundsException("about tells 0 to 5");
        }
    }

    /** Tells of an ember. */
    public int told(int ember, int what) throws IndexOutOfBoundsException {
        refuseUnlit(ember);
        switch (what) {
            case 0:
                return embers.heatOf(ember);
            case 1:
                return embers.homeOf(ember);
            case 2:
                return bucketWith(ember);
            case 3:
                return embers.movedOf(ember);
            case 4:
                return embers.isRaked(ember) ? 1 : 0;
            default:
                throw new IndexOutOfBoundsException("told tells 0 to 4");
        }
    }

    /** Tells of all embers. */
    public int count(int what) throws IndexOutOfBoundsException {
        switch (what) {
            case 0:
                return embers.lit();
            case 1:
                return zero.size() + one.size();
            case 2:
                return zero.movesMade() + one.movesMade();
            case 3:
                return zero.rakes() + one.rakes();
            case 4:
                return quenched;
            default:
                throw new IndexOutOfBoundsException("count tells 0 to 4");
        }
    }

    // ---- what would be

    /** Returns the ember that would be raked there, if the hearth was raked again and again. */
    public int next(int hearth, int place) throws IndexOutOfBoundsException {
        Hearth asked = hearthOf(hearth);
        if (place < 0 || place >= asked.size()) {
            throw new IndexOutOfBoundsException("the hearth has not so many embers");
        }
        trial.becomeLike(asked);
        trial.rakeOften(place);
        return trial.rakeOnce();
    }

    /** Returns how many moves it would be to rake a hearth so often. */
    public int moves(int hearth, int times) throws IndexOutOfBoundsException, IllegalArgumentException {
        Hearth asked = hearthOf(hearth);
        if (times < 0 || times > asked.size()) {
            throw new IllegalArgumentException("the hearth can not be raked so often");
        }
        trial.becomeLike(asked);
        trial.rakeOften(times);
        return trial.movesMade();
    }

    /** Returns how far the low of a hearth could rise by raise(). */
    public int highest(int hearth) throws IndexOutOfBoundsException {
        return hearthOf(hearth).leastHeat();
    }

    /** Returns the ember without which raking the others is the fewest moves, -1 without any. */
    public int advise(int hearth) throws IndexOutOfBoundsException {
        Hearth asked = hearthOf(hearth);
        int best = NONE;
        int fewest = 0;
        for (int ember = 0; ember < embers.lit(); ember++) {
            if (embers.homeOf(ember) == hearth) {
                trial.becomeLike(asked);
                trial.takeOut(ember);
                trial.rakeOften(trial.size());
                if (best == NONE || trial.movesMade() < fewest) {
                    best = ember;
                    fewest = trial.movesMade();
                }
            }
        }
        return best;
    }

    /** Returns the mean heat of all embers that lie in hearths, 0 without any. */
    public double mean() {
        int lying = zero.size() + one.size();
        if (lying == 0) {
            return 0.0;
        }
        return (double) (zero.heatInAll() + one.heatInAll()) / (double) lying;
    }

    /** Returns a checksum of all that is told. */
    public long digest() {
        long sum = DIGEST_START;
        for (int what = 0; what < COUNTS; what++) {
            sum = joined(sum, count(what));
        }
        for (int hearth = 0; hearth < HEARTHS; hearth++) {
            sum = joinedHearth(sum, hearth);
        }
        for (int ember = 0; ember < embers.lit(); ember++) {
            for (int what = 0; what < TOLDS; what++) {
                sum = joined(sum, told(ember, what));
            }
        }
        return sum;
    }

    private long joinedHearth(long before, int hearth) {
        long sum = before;
        for (int what = 0; what < ABOUTS; what++) {
            sum = joined(sum, about(hearth, what));
        }
        Hearth asked = hearthOf(hearth);
        for (int bucket = 0; bucket < BUCKETS; bucket++) {
            int size = asked.sizeOf(bucket);
            sum = joined(sum, size);
            for (int place = 0; place < size; place++) {
                sum = joined(sum, asked.emberAt(bucket, place));
            }
        }
        return sum;
    }

    private static long joined(long sum, int number) {
        return sum * DIGEST_FACTOR + number;
    }

    private int bucketWith(int ember) {
        int home = embers.homeOf(ember);
        return home == NONE ? NONE : hearthOf(home).bucketFor(embers.heatOf(ember));
    }

    private Hearth hearthOf(int number) {
        if (number < 0 || number >= HEARTHS) {
            throw new IndexOutOfBoundsException("there is no such hearth");
        }
        return number == 0 ? zero : one;
    }

    private Hearth homeOfBurning(int ember) {
        refuseUnlit(ember);
        int home = embers.homeOf(ember);
        if (home == NONE) {
            throw new IllegalStateException("the ember has gone out");
        }
        return hearthOf(home);
    }

    private void refuseUnlit(int ember) {
        if (!embers.has(ember)) {
            throw new IndexOutOfBoundsException("there is no such ember");
        }
    }

    private static void refuseBucket(int bucket) {
        if (bucket < 0 || bucket >= BUCKETS) {
            throw new IndexOutOfBoundsException("there is no such bucket");
        }
    }

    /** What is known of each ember that was lit, wherever it lies. */
    private static final class Embers {
        private final int[] heats = new int[MOST_EMBERS];
        private final int[] homes = new int[MOST_EMBERS];
        private final int[] moved = new int[MOST_EMBERS];
        private final boolean[] raked = new boolean[MOST_EMBERS];
        private int lit;

        int lit() {
            return lit;
        }

        boolean has(int ember) {
            return ember >= 0 && ember < lit;
        }

        int add(int heat, int home) {
            if (lit >= MOST_EMBERS) {
                return NONE;
            }
            int ember = lit;
            heats[ember] = heat;
            homes[ember] = home;
            lit++;
            return ember;
        }

        int heatOf(int ember) {
            return has(ember) ? heats[ember] : 0;
        }

        void setHeat(int ember, int heat) {
            if (has(ember)) {
                heats[ember] = heat;
            }
        }

        /** The number of the hearth in which it lies, NONE if it has gone out. */
        int homeOf(int ember) {
            return has(ember) ? homes[ember] : NONE;
        }

        void setHome(int ember, int home) {
            if (has(ember)) {
                homes[ember] = home;
            }
        }

        void goOut(int ember, boolean byRaking) {
            if (has(ember)) {
                homes[ember] = NONE;
                raked[ember] = byRaking;
            }
        }

        boolean isRaked(int ember) {
            return has(ember) && raked[ember];
        }

        int movedOf(int ember) {
            return has(ember) ? moved[ember] : 0;
        }

        void noteMove(int ember) {
            if (has(ember)) {
                moved[ember]++;
            }
        }
    }

    /** Embers in a row; a place outside of it is passed over, so that no index is wrong. */
    private static final class Row {
        private final int[] numbers = new int[MOST_EMBERS];
        private int size;

        int size() {
            return size;
        }

        int at(int place) {
            return place >= 0 && place < size ? numbers[place] : NONE;
        }

        int placeOf(int ember) {
            for (int place = 0; place < size; place++) {
                if (numbers[place] == ember) {
                    return place;
                }
            }
            return NONE;
        }

        void insert(int place, int ember) {
            if (place < 0 || place > size || size >= MOST_EMBERS) {
                return;
            }
            System.arraycopy(numbers, place, numbers, place + 1, size - place);
            numbers[place] = ember;
            size++;
        }

        void removeAt(int place) {
            if (place < 0 || place >= size) {
                return;
            }
            size--;
            System.arraycopy(numbers, place + 1, numbers, place, size - place);
        }

        void becomeLike(Row other) {
            System.arraycopy(other.numbers, 0, numbers, 0, other.size);
            size = other.size;
        }

        /** Becomes the first embers of another row, so many, which leave it. */
        void becomeFirstOf(Row other, int many) {
            if (many < 0 || many > other.size) {
                return;
            }
            System.arraycopy(other.numbers, 0, numbers, 0, many);
            size = many;
            other.size -= many;
            System.arraycopy(other.numbers, many, other.numbers, 0, other.size);
        }
    }

    /** A hearth; one for trials moves embers without a note of it in what is known of them. */
    private static final class Hearth {
        private final Embers embers;
        private final boolean noting;
        // One row holds all buckets, each behind the one before it, as this is the order
        // in which embers are spread, moved by raise() and poured.
        private final Row row = new Row();
        private final Row taken = new Row();
        private final int[] sizes = new int[BUCKETS];
        private int low;
        private int movesMade;
        private int rakes;

        Hearth(Embers embers, boolean noting) {
            this.embers = embers;
            this.noting = noting;
        }

        int size() {
            return row.size();
        }

        int low() {
            return low;
        }

        int movesMade() {
            return movesMade;
        }

        int rakes() {
            return rakes;
        }

        boolean takesHeat(int heat) {
            return heat >= low && heat <= MOST_HEAT;
        }

        /** As the low only rises as far as all embers allow, this is also where one of this heat lies. */
        int bucketFor(int heat) {
            int differing = low ^ heat;
            int bucket = 0;
            while (bucket < BUCKETS - 1 && differing >> bucket != 0) {
                bucket++;
            }
            return bucket;
        }

        int sizeOf(int bucket) {
            return bucket >= 0 && bucket < BUCKETS ? sizes[bucket] : 0;
        }

        int emberAt(int bucket, int place) {
            return place >= 0 && place < sizeOf(bucket) ? row.at(startOf(bucket) + place) : NONE;
        }

        int firstBucket() {
            for (int bucket = 0; bucket < BUCKETS; bucket++) {
                if (sizes[bucket] > 0) {
                    return bucket;
                }
            }
            return NONE;
        }

        int lastBucket() {
            for (int bucket = BUCKETS - 1; bucket >= 0; bucket--) {
                if (sizes[bucket] > 0) {
                    return bucket;
                }
            }
            return NONE;
        }

        /** The least heat of all its embers, which lie in its first bucket; 1023 without any. */
        int leastHeat() {
            int least = MOST_HEAT;
            int size = sizeOf(firstBucket());
            for (int place = 0; place < size; place++) {
                least = Math.min(least, embers.heatOf(row.at(place)));
            }
            return least;
        }

        /** The heat of its hottest ember, NONE without any. */
        int mostHeat() {
            int most = NONE;
            for (int place = 0; place < row.size(); place++) {
                most = Math.max(most, embers.heatOf(row.at(place)));
            }
            return most;
        }

        int heatInAll() {
            int sum = 0;
            for (int place = 0; place < row.size(); place++) {
                sum += embers.heatOf(row.at(place));
            }
            return sum;
        }

        /** Puts an ember to the end of its bucket. */
        void put(int ember) {
            int bucket = bucketFor(embers.heatOf(ember));
            row.insert(startOf(bucket) + sizeOf(bucket), ember);
            resize(bucket, 1);
        }

        void takeOut(int ember) {
            int place = row.placeOf(ember);
            if (place != NONE) {
                row.removeAt(place);
                resize(bucketFor(embers.heatOf(ember)), -1);
            }
        }

        /** Puts embers into it, each as a move, and returns how many these are. */
        int moveIn(Row moved) {
            int many = moved.size();
            for (int place = 0; place < many; place++) {
                int ember = moved.at(place);
                put(ember);
                if (noting) {
                    embers.noteMove(ember);
                }
            }
            movesMade += many;
            return many;
        }

        /** Rakes it, and returns the ember that is raked; NONE without any. */
        int rakeOnce() {
            int first = firstBucket();
            if (first == NONE) {
                return NONE;
            }
            if (first > 0) {
                low = leastHeat();
                takeBucketsTo(first);
                moveIn(taken);
            }
            int ember = row.at(0);
            takeOut(ember);
            rakes++;
            return ember;
        }

        void rakeOften(int times) {
            for (int done = 0; done < times; done++) {
                rakeOnce();
            }
        }

        int riseTo(int higher) {
            takeBucketsTo(BUCKETS - 1);
            low = higher;
            return moveIn(taken);
        }

        /** Empties it, with a low of 0 then, and returns the embers that lay in it. */
        Row pourOut() {
            takeBucketsTo(BUCKETS - 1);
            low = 0;
            return taken;
        }

        /** Becomes what another hearth is now, with no moves and rakes of its own as yet. */
        void becomeLike(Hearth other) {
            row.becomeLike(other.row);
            for (int bucket = 0; bucket < BUCKETS; bucket++) {
                sizes[bucket] = other.sizes[bucket];
            }
            low = other.low;
            movesMade = 0;
            rakes = 0;
        }

        /** Takes the embers of the buckets from 0 to this one out, in the order in which they lie. */
        private void takeBucketsTo(int last) {
            taken.becomeFirstOf(row, startOf(last) + sizeOf(last));
            for (int bucket = 0; bucket <= last && bucket < BUCKETS; bucket++) {
                sizes[bucket] = 0;
            }
        }

        private int startOf(int bucket) {
            int start = 0;
            for (int before = 0; before < bucket && before < BUCKETS; before++) {
                start += sizes[before];
            }
            return start;
        }

        private void resize(int bucket, int by) {
            if (bucket >= 0 && bucket < BUCKETS) {
                sizes[bucket] += by;
            }
        }
    }
}
