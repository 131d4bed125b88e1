/** A seamstress's hems: two rows of stitches, the order of their ends, and a sample to look for. */
public final class HemSuffixes {
    private static final int STITCH_KINDS = 9;
    private static final int HEM_ROOM = 40;
    private static final int SAMPLE_ROOM = 12;
    private static final int COUNTS = 6;
    private static final int REPEAT_PARTS = 3;
    private static final int SEAM_PARTS = 3;
    private static final int ROW_PLACE_FACTOR = 64;
    private static final long DIGEST_START = 1483L;
    private static final long DIGEST_FACTOR = 31L;

    // No place, and what stands behind the last stitch: less than every stitch, so a shorter row is less by itself.
    private static final int NONE = -1;

    private final Hem hemZero;
    private final Hem hemOne;
    private final Stitches sample;

    public HemSuffixes() {
        hemZero = new Hem();
        hemOne = new Hem();
        sample = new Stitches();
    }

    // ---- sewing

    public int sew(int hem, int stitch)
            throws IndexOutOfBoundsException, IllegalArgumentException, IllegalStateException {
        Hem sewn = hemOf(hem);
        requireStitch(stitch);
        if (sewn.stitches.length >= HEM_ROOM) {
            throw new IllegalStateException("the hem is full");
        }
        sewn.sewOn(stitch);
        return sewn.stitches.length;
    }

    public int again(int hem, int many)
            throws IndexOutOfBoundsException, IllegalArgumentException, IllegalStateException {
        Hem sewn = hemOf(hem);
        if (many < 1 || many > HEM_ROOM) {
            throw new IllegalArgumentException("many is not 1 to 40");
        }
        int before = sewn.stitches.length;
        if (before == 0 || before + many > HEM_ROOM) {
            throw new IllegalStateException("the hem is empty, or has no room");
        }
        sewn.sewBeginning(many);
        return sewn.stitches.length;
    }

    public int unpick(int hem, int many) throws IndexOutOfBoundsException, IllegalArgumentException {
        Hem unpicked = hemOf(hem);
        if (many < 1 || many > unpicked.stitches.length) {
            throw new IllegalArgumentException("the hem has not so many stitches");
        }
        unpicked.takeOff(many);
        return unpicked.stitches.length;
    }

    public int add(int stitch) throws IllegalArgumentException, IllegalStateException {
        requireStitch(stitch);
        if (sample.length >= SAMPLE_ROOM) {
            throw new IllegalStateException("the sample is full");
        }
        sample.append(stitch);
        return sample.length;
    }

    public int clear() {
        int had = sample.length;
        sample.drop(had);
        return had;
    }

    // ---- hems

    public int stitch(int hem, int place) throws IndexOutOfBoundsException {
        Stitches stitches = hemOf(hem).stitches;
        requirePlace(stitches, place);
        return stitches.at(place);
    }

    public int count(int what) throws IndexOutOfBoundsException {
        switch (what) {
            case 0:
                return hemZero.stitches.length;
            case 1:
                return hemOne.stitches.length;
            case 2:
                return sample.length;
            case 3:
                return hemZero.differentRows();
            case 4:
                return hemOne.differentRows();
            case 5:
                return seamLengthFrom(seamPlace());
            default:
                throw new IndexOutOfBoundsException("what is not 0 to 5");
        }
    }

    // ---- ends

    public int end(int hem, int rank) throws IndexOutOfBoundsException {
        Hem asked = hemOf(hem);
        // There are as many ranks as places, numbered alike.
        requirePlace(asked.stitches, rank);
        return asked.placeAt(rank);
    }

    public int rank(int hem, int place) throws IndexOutOfBoundsException {
        Hem asked = hemOf(hem);
        requirePlace(asked.stitches, place);
        return asked.rankOf(place);
    }

    public int common(int hem, int a, int b) throws IndexOutOfBoundsException {
        Stitches stitches = hemOf(hem).stitches;
        requirePlace(stitches, a);
        requirePlace(stitches, b);
        return stitches.sharedWith(a, stitches, b);
    }

    public int against(int a, int b) throws IndexOutOfBoundsException {
        requirePlace(hemZero.stitches, a);
        requirePlace(hemOne.stitches, b);
        return hemZero.stitches.difference(a, hemOne.stitches, b);
    }

    // ---- rows

    public int repeat(int hem, int what) throws IndexOutOfBoundsException {
        Hem asked = hemOf(hem);
        if (what < 0 || what >= REPEAT_PARTS) {
            throw new IndexOutOfBoundsException("what is not 0 to 2");
        }
        int rank = asked.repeatRank();
        int many = asked.sharedWithNext(rank);
        if (what == 0) {
            return many;
        }
        int place = asked.placeAt(rank);
        if (what == 1) {
            return asked.stitches.firstPlaceOf(asked.stitches, place, many);
        }
        return asked.stitches.placesOf(asked.stitches, place, many);
    }

    public int row(int hem, int number) throws IndexOutOfBoundsException {
        Hem asked = hemOf(hem);
        if (number < 0 || number >= asked.differentRows()) {
            throw new IndexOutOfBoundsException("there is no such row");
        }
        return asked.rowOfNumber(number);
    }

    public int found(int hem) throws IndexOutOfBoundsException {
        return hemOf(hem).stitches.placesOf(sample, 0, sample.length);
    }

    public int first(int hem) throws IndexOutOfBoundsException {
        return hemOf(hem).stitches.firstPlaceOf(sample, 0, sample.length);
    }

    public int period(int hem) throws IndexOutOfBoundsException {
        return hemOf(hem).stitches.leastPeriod();
    }

    public int turned(int hem) throws IndexOutOfBoundsException {
        return hemOf(hem).stitches.bestBeginning();
    }

    public int seam(int what) throws IndexOutOfBoundsException {
        if (what < 0 || what >= SEAM_PARTS) {
            throw new IndexOutOfBoundsException("what is not 0 to 2");
        }
        int place = seamPlace();
        int many = seamLengthFrom(place);
        if (what == 0) {
            return many;
        }
        Stitches asked = what == 1 ? hemZero.stitches : hemOne.stitches;
        return asked.firstPlaceOf(hemZero.stitches, place, many);
    }

    // ---- what would be

    public int would(int hem, int stitch) throws IndexOutOfBoundsException, IllegalArgumentException {
        Hem asked = hemOf(hem);
        requireStitch(stitch);
        return asked.stitches.newRowsBy(stitch);
    }

    public int advise(int hem) throws IndexOutOfBoundsException {
        Stitches stitches = hemOf(hem).stitches;
        int best = 0;
        int fewest = stitches.newRowsBy(best);
        for (int stitch = 1; stitch < STITCH_KINDS; stitch++) {
            int more = stitches.newRowsBy(stitch);
            if (more < fewest) {
                best = stitch;
                fewest = more;
            }
        }
        return best;
    }

    public double mean() {
        int pairs = hemZero.neighbourPairs() + hemOne.neighbourPairs();
        if (pairs == 0) {
            return 0.0;
        }
        int shared = hemZero.sharedByNeighbours() + hemOne.sharedByNeighbours();
        return (double) shared / (double) pairs;
    }

    public long digest() {
        long sum = DIGEST_START;
        for (int what = 0; what < COUNTS; what++) {
            sum = mixed(sum, count(what));
        }
        sum = hemMixed(sum, 0);
        sum = hemMixed(sum, 1);
        sum = stitchesMixed(sum, sample);
        for (int what = 0; what < SEAM_PARTS; what++) {
            sum = mixed(sum, seam(what));
        }
        return sum;
    }

    private long hemMixed(long sum, int hem) {
        Hem asked = hemOf(hem);
        long result = stitchesMixed(sum, asked.stitches);
        for (int rank = 0; rank < asked.stitches.length; rank++) {
            result = mixed(result, asked.placeAt(rank));
        }
        for (int what = 0; what < REPEAT_PARTS; what++) {
            result = mixed(result, repeat(hem, what));
        }
        result = mixed(result, period(hem));
        result = mixed(result, turned(hem));
        return mixed(result, found(hem));
    }

    private static long stitchesMixed(long sum, Stitches stitches) {
        long result = sum;
        for (int place = 0; place < stitches.length; place++) {
            result = mixed(result, stitches.at(place));
        }
        return result;
    }

    private static long mixed(long sum, int next) {
        return sum * DIGEST_FACTOR + next;
    }

    private Hem hemOf(int hem) {
        if (hem == 0) {
            return hemZero;
        }
        if (hem == 1) {
            return hemOne;
        }
        throw new IndexOutOfBoundsException("hem is not 0 to 1");
    }

    private static void requireStitch(int stitch) {
        if (stitch < 0 || stitch >= STITCH_KINDS) {
            throw new IllegalArgumentException("stitch is not 0 to 8");
        }
    }

    private static void requirePlace(Stitches stitches, int place) {
        if (place < 0 || place >= stitches.length) {
            throw new IndexOutOfBoundsException("there is no such place");
        }
    }

    // The ends are gone through in their order: the first one with the most begins with the least row as long.
    private int seamPlace() {
        int best = NONE;
        int most = 0;
        for (int rank = 0; rank < hemZero.stitches.length; rank++) {
            int place = hemZero.placeAt(rank);
            int many = seamLengthFrom(place);
            if (many > most) {
                best = place;
                most = many;
            }
        }
        return best;
    }

    private int seamLengthFrom(int place) {
        return hemZero.stitches.mostSharedWith(place, hemOne.stitches);
    }

    /** Serves the hems and the sample alike; the sample leaves room unused, so that one length fits all. */
    private static final class Stitches {
        private final int[] kinds;
        private int length;

        Stitches() {
            kinds = new int[HEM_ROOM];
            length = 0;
        }

        int at(int place) {
            if (place < 0 || place >= length || place >= kinds.length) {
                return NONE;
            }
            return kinds[place];
        }

        void append(int stitch) {
            if (length >= 0 && length < kinds.length) {
                kinds[length] = stitch;
                length++;
            }
        }

        void drop(int many) {
            length = many < length ? length - many : 0;
        }

        int sharedWith(int place, Stitches other, int otherPlace) {
            int most = Math.min(length - place, other.length - otherPlace);
            int shared = 0;
            while (shared < most && at(place + shared) == other.at(otherPlace + shared)) {
                shared++;
            }
            return shared;
        }

        // Answers as the promise 12 wants it; the order of the ends takes the sign alone.
        int difference(int place, Stitches other, int otherPlace) {
            int shared = sharedWith(place, other, otherPlace);
            int here = at(place + shared);
            int there = other.at(otherPlace + shared);
            if (here == there) {
                return 0;
            }
            return here < there ? -(shared + 1) : shared + 1;
        }

        int mostSharedWith(int place, Stitches other) {
            if (place < 0) {
                return 0;
            }
            int most = 0;
            // An end there that is no longer than the most so far can't have more in common, nor can those behind it.
            for (int there = 0; there + most < other.length; there++) {
                most = Math.max(most, sharedWith(place, other, there));
            }
            return most;
        }

        private boolean standsAt(int here, Stitches other, int from, int many) {
            return sharedWith(here, other, from) >= many;
        }

        int firstPlaceOf(Stitches other, int from, int many) {
            // A row has one stitch or more: an empty sample stands nowhere.
            if (many < 1) {
                return NONE;
            }
            for (int here = 0; here + many <= length; here++) {
                if (standsAt(here, other, from, many)) {
                    return here;
                }
            }
            return NONE;
        }

        int placesOf(Stitches other, int from, int many) {
            if (many < 1) {
                return 0;
            }
            int places = 0;
            for (int here = 0; here + many <= length; here++) {
                if (standsAt(here, other, from, many)) {
                    places++;
                }
            }
            return places;
        }

        int leastPeriod() {
            for (int shift = 1; shift < length; shift++) {
                if (sharedWith(0, this, shift) == length - shift) {
                    return shift;
                }
            }
            return length;
        }

        int bestBeginning() {
            if (length == 0) {
                return NONE;
            }
            int best = 0;
            for (int place = 1; place < length; place++) {
                if (turnsToLess(place, best)) {
                    best = place;
                }
            }
            return best;
        }

        private boolean turnsToLess(int place, int than) {
            for (int step = 0; step < length; step++) {
                int one = allAround(place + step);
                int other = allAround(than + step);
                if (one != other) {
                    return one < other;
                }
            }
            return false;
        }

        private int allAround(int place) {
            return at(place < length ? place : place - length);
        }

        int newRowsBy(int stitch) {
            // New rows end with the stitch; if one of these stands here already, all shorter ones do too.
            int known = 0;
            for (int place = 0; place < length; place++) {
                if (at(place) == stitch) {
                    known = Math.max(known, 1 + sharedBackwardsFrom(place));
                }
            }
            return length + 1 - known;
        }

        private int sharedBackwardsFrom(int place) {
            int shared = 0;
            while (shared < place && at(place - 1 - shared) == at(length - 1 - shared)) {
                shared++;
            }
            return shared;
        }
    }

    /** Orders its ends anew whenever its stitches change, so that no question has to. */
    private static final class Hem {
        private final Stitches stitches;
        private final int[] placesInOrder;

        Hem() {
            stitches = new Stitches();
            placesInOrder = new int[HEM_ROOM];
        }

        void sewOn(int stitch) {
            stitches.append(stitch);
            orderEnds();
        }

        void sewBeginning(int many) {
            for (int place = 0; place < many; place++) {
                stitches.append(stitches.at(place));
            }
            orderEnds();
        }

        void takeOff(int many) {
            stitches.drop(many);
            orderEnds();
        }

        // The shortest end goes first: where stitches repeat, a longer one then mostly finds its rank at once.
        private void orderEnds() {
            for (int held = 0; held < stitches.length && held < placesInOrder.length; held++) {
                putInOrder(stitches.length - 1 - held, held);
            }
        }

        private void putInOrder(int place, int held) {
            int rank = held;
            while (rank > 0 && stitches.difference(place, stitches, placesInOrder[rank - 1]) < 0) {
                placesInOrder[rank] = placesInOrder[rank - 1];
                rank--;
            }
            placesInOrder[rank] = place;
        }

        int placeAt(int rank) {
            if (rank < 0 || rank >= stitches.length || rank >= placesInOrder.length) {
                return NONE;
            }
            return placesInOrder[rank];
        }

        int rankOf(int place) {
            for (int rank = 0; rank < stitches.length; rank++) {
                if (placeAt(rank) == place) {
                    return rank;
                }
            }
            return NONE;
        }

        int sharedWithNext(int rank) {
            int place = placeAt(rank);
            int next = placeAt(rank + 1);
            if (place == NONE || next == NONE) {
                return 0;
            }
            return stitches.sharedWith(place, stitches, next);
        }

        int neighbourPairs() {
            return stitches.length == 0 ? 0 : stitches.length - 1;
        }

        int sharedByNeighbours() {
            int shared = 0;
            for (int rank = 0; rank < stitches.length; rank++) {
                shared += sharedWithNext(rank);
            }
            return shared;
        }

        // What an end has in common with the one ahead of it in the order was counted there.
        private int rowsFirstAt(int rank) {
            return stitches.length - placeAt(rank) - sharedWithNext(rank - 1);
        }

        int differentRows() {
            int rows = 0;
            for (int rank = 0; rank < stitches.length; rank++) {
                rows += rowsFirstAt(rank);
            }
            return rows;
        }

        int rowOfNumber(int number) {
            int left = number;
            for (int rank = 0; rank < stitches.length; rank++) {
                int rows = rowsFirstAt(rank);
                if (left < rows) {
                    int many = sharedWithNext(rank - 1) + left + 1;
                    return ROW_PLACE_FACTOR * stitches.firstPlaceOf(stitches, placeAt(rank), many) + many;
                }
                left -= rows;
            }
            return NONE;
        }

        // The ends are gone through in their order: the first one with the most begins with the least repeat as long.
        int repeatRank() {
            int best = NONE;
            int most = 0;
            for (int rank = 0; rank < stitches.length; rank++) {
                int many = sharedWithNext(rank);
                if (many > most) {
                    best = rank;
                    most = many;
                }
            }
            return best;
        }
    }
}
