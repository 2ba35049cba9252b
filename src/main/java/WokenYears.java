public final class WokenYears {
    public static final int BAD = -1, FULL = -2, FINDING = -3, STATE = -4, SPENT = -6, NONE = -9;

    private static final int NOTHING = 1, BEYOND = 2, UNLIKE = 3, NOUGHT = 4, SIZE = 5;
    private static final int HOUSE = 0, HEAVY = 1, RICH = 2, DEAD = 3, INFANT = 4, MILL = 5;
    private static final int KINDS = 6;
    private static final int WALK = 0, TAP = 1, SLATE = 2, FROST = 3, NIGHT = 4;
    private static final int ROWS = 6, ROW_ROOM = 40, TEXTS = 4, TEXT_ROOM = 60, KEEPS = 3;
    private static final int HOUSES_MOST = 6, DEEDS_MOST = 40, PURSE_MOST = 9999;
    private static final int PAIRED_INTS_MOST = 16;
    private static final int BLANK = 32;
    private static final int COUNTS = 14, TELLS = 6;
    private static final long LOT_FACTOR = 48271, LOT_MODULUS = 2147483647;

    private final Ints[] rows = missing(ROWS, ROW_ROOM);
    private final Ints[] texts = missing(TEXTS, TEXT_ROOM);
    private final Ints[] kept = missing(KEEPS, DEEDS_MOST);
    private final Reader reader = new Reader();
    private final Rounds rounds = new Rounds();
    private final Ints findings = new Ints(SIZE + 1);
    private Street street = new Street();
    // a text is read into the draft, so that one with a fault leaves the town as it is
    private Street draft = new Street();
    private int finding;
    private int asked;
    private long upper;
    private long lower = 1;

    public WokenYears() {
        findings.fill(SIZE + 1, 0);
    }

    // ---- what is refused

    private int found(int what) {
        finding = what;
        findings.set(what, findings.get(what) + 1);
        return FINDING;
    }

    private static boolean within(int v, int least, int most) {
        return v >= least && v <= most;
    }

    private static boolean isDate(int date) {
        return within(date, 0, 99);
    }

    private static Ints[] missing(int many, int room) {
        Ints[] all = new Ints[Math.max(0, many)];
        for (int i = 0; i < all.length; i++) {
            all[i] = new Ints(room);
        }
        return all;
    }

    private static Ints pick(Ints[] from, int i) {
        return i >= 0 && i < from.length ? from[i] : null;
    }

    // 0: there is one
    private int refused(Ints one) {
        if (one == null) {
            return BAD;
        }
        return one.size < 0 ? found(NOTHING) : 0;
    }

    // 0: there is such a place
    private int refusedAt(Ints one, int i) {
        int refused = refused(one);
        if (one == null || refused != 0) {
            return refused;
        }
        return one.has(i) ? 0 : found(BEYOND);
    }

    private static int present(Ints[] all) {
        int many = 0;
        for (int i = 0; i < all.length; i++) {
            Ints one = all[i];
            if (one != null && one.size >= 0) {
                many++;
            }
        }
        return many;
    }

    // ---- 1 rows, texts, towns

    public int row(int r, int n) {
        Ints row = pick(rows, r);
        if (row == null || n > ROW_ROOM) {
            return BAD;
        }
        if (n < 0) {
            return found(SIZE);
        }
        row.fill(n, 0);
        return n;
    }

    public int lay(int r, int i, int v) {
        Ints row = pick(rows, r);
        int refused = refusedAt(row, i);
        if (row == null || refused != 0) {
            return refused;
        }
        asked = row.get(i);
        row.set(i, v);
        return 1;
    }

    public int at(int r, int i) {
        Ints row = pick(rows, r);
        int refused = refusedAt(row, i);
        if (row == null || refused != 0) {
            return refused;
        }
        asked = row.get(i);
        return 1;
    }

    public int tear(int r) {
        Ints row = pick(rows, r);
        int refused = refused(row);
        if (row == null || refused != 0) {
            return refused;
        }
        row.drop();
        return 1;
    }

    public int copy(int r, int i, int to, int j, int n) {
        Ints from = pick(rows, r);
        Ints into = pick(rows, to);
        if (from == null || into == null) {
            return BAD;
        }
        if (n < 0) {
            return found(SIZE);
        }
        if (from.size < 0 || into.size < 0) {
            return found(NOTHING);
        }
        if (!from.spans(i, n) || !into.spans(j, n)) {
            return found(BEYOND);
        }
        from.copyOut(i, into, j, n);
        return 1;
    }

    public int mean(int r) {
        Ints row = pick(rows, r);
        int refused = refused(row);
        if (row == null || refused != 0) {
            return refused;
        }
        if (row.size == 0) {
            return found(NOUGHT);
        }
        long sum = 0;
        for (int i = 0; i < row.size; i++) {
            sum += row.get(i);
        }
        asked = (int) (sum / row.size);
        return 1;
    }

    public int text(int t, int n) {
        Ints text = pick(texts, t);
        if (text == null || n > TEXT_ROOM) {
            return BAD;
        }
        if (n < 0) {
            return found(SIZE);
        }
        text.fill(n, BLANK);
        return n;
    }

    public int put(int t, int i, int v) {
        Ints text = pick(texts, t);
        int refused = refusedAt(text, i);
        if (text == null || refused != 0) {
            return refused;
        }
        int was = text.get(i);
        text.set(i, (byte) v);
        return 1000 + was;
    }

    public int fault(int t) {
        Ints text = pick(texts, t);
        int refused = refused(text);
        if (text == null || refused != 0) {
            return refused;
        }
        return reader.read(text, draft);
    }

    public int town(int t) {
        Ints text = pick(texts, t);
        int refused = refused(text);
        if (text == null || refused != 0) {
            return refused;
        }
        if (reader.read(text, draft) != NONE) {
            return STATE;
        }
        Street old = street;
        street = draft;
        draft = old;
        street.deeds.fill(0, 0);
        street.replay();
        for (int k = 0; k < kept.length; k++) {
            Ints one = kept[k];
            if (one != null) {
                one.drop();
            }
        }
        return street.size;
    }

    public int house(int i, int what) {
        if (!street.isHouse(i) || !within(what, 0, TELLS - 1)) {
            return BAD;
        }
        asked = street.tell(i, what);
        return 1;
    }

    public int mark(int i, int kind) {
        if (!street.isHouse(i) || !within(kind, HEAVY, MILL)) {
            return BAD;
        }
        if (!Kinds.isOf(street.kinds.get(i), kind)) {
            return found(UNLIKE);
        }
        int date = street.dates.get(i);
        int taps = street.tapsFor(i, date);
        switch (kind) {
            case HEAVY:
                return taps == NONE ? NONE : taps - Kinds.taps(HOUSE, date, street.frost);
            case RICH:
                return street.fee(i) - Kinds.fee(HOUSE);
            case DEAD:
                return street.othersAwake(i);
            case INFANT:
                return taps;
            default:
                return street.othersEarlier(i);
        }
    }

    // ---- 2 deeds

    private boolean isFull(int more) {
        return street.deeds.size + more > DEEDS_MOST;
    }

    public int walk(int to) {
        if (!street.isHouse(to)) {
            return BAD;
        }
        if (street.place == to) {
            return STATE;
        }
        if (isFull(1)) {
            return FULL;
        }
        street.does(WALK, to, 0);
        return street.minute;
    }

    public int tap() {
        if (street.size == 0) {
            return STATE;
        }
        if (isFull(1)) {
            return FULL;
        }
        street.does(TAP, 0, 0);
        return street.isAwake(street.place) ? 1 : 0;
    }

    public int slate(int i, int date) {
        if (!street.isHouse(i) || !isDate(date)) {
            return BAD;
        }
        int was = street.dates.get(i);
        if (was == date) {
            return STATE;
        }
        if (isFull(1)) {
            return FULL;
        }
        street.does(SLATE, i, date);
        return was;
    }

    public int frost(int on) {
        if (!within(on, 0, 1)) {
            return BAD;
        }
        if (street.size == 0 || street.frost == on) {
            return STATE;
        }
        if (isFull(1)) {
            return FULL;
        }
        street.does(FROST, 0, on);
        return on;
    }

    public int night() {
        if (street.size == 0) {
            return STATE;
        }
        if (isFull(1)) {
            return FULL;
        }
        int awake = Integer.bitCount(street.awakeSet());
        street.does(NIGHT, 0, 0);
        return awake;
    }

    public int undo(int n) {
        int deeds = street.deeds.size;
        if (!within(n, 0, deeds)) {
            return BAD;
        }
        street.deeds.cut(n);
        street.replay();
        return deeds - n;
    }

    public int keep(int k) {
        Ints place = pick(kept, k);
        if (place == null) {
            return BAD;
        }
        if (street.size == 0) {
            return STATE;
        }
        place.takeFrom(street.deeds);
        return place.size;
    }

    public int on(int k) {
        Ints place = pick(kept, k);
        int refused = refused(place);
        if (place == null || refused != 0) {
            return refused;
        }
        street.deeds.takeFrom(place);
        street.replay();
        return street.deeds.size;
    }

    // ---- 3 what dates take

    public int takes(int i, int date) {
        if (!street.isHouse(i) || !isDate(date)) {
            return BAD;
        }
        return street.tapsFor(i, date);
    }

    public int pays(int i) {
        return street.isHouse(i) ? street.fee(i) : BAD;
    }

    public int who(int date, int n) {
        if (!isDate(date) || !within(n, 1, 9)) {
            return BAD;
        }
        int set = 0;
        for (int i = 0; i < street.size; i++) {
            if (street.tapsFor(i, date) == n) {
                set |= 1 << i;
            }
        }
        return set;
    }

    public int quarrels() {
        return street.size == 0 ? STATE : street.quarrelling();
    }

    // ---- 4 rounds

    public int soonest(int set) {
        if (!street.isSet(set)) {
            return BAD;
        }
        if (!street.canWake(set)) {
            return STATE;
        }
        return street.tapsLeft(set) + Rounds.walkOver(set, street.place);
    }

    public int intime(int set, int r) {
        Ints row = pick(rows, r);
        if (row == null || !street.isSet(set)) {
            return BAD;
        }
        if (!street.canWake(set)) {
            return STATE;
        }
        int minutes = rounds.fewest(street, set);
        if (minutes != NONE) {
            row.takeFrom(rounds.best);
        }
        return minutes;
    }

    public int many() {
        if (street.size == 0) {
            return STATE;
        }
        asked = rounds.greatest(street);
        return Integer.bitCount(asked);
    }

    // ---- 5 dates to doors

    public int dates(int r) {
        Ints row = pick(rows, r);
        if (row == null) {
            return BAD;
        }
        if (street.size == 0) {
            return STATE;
        }
        int earliest = street.nextByDate(0, 1);
        int latest = street.nextByDate(0, -1);
        // Neighbours are least far apart if the dates go up, or go down, all along the street;
        // the two rows begin with different houses, unless all dates are the same.
        int way = earliest <= latest ? 1 : -1;
        row.fill(street.size, 0);
        int given = 0;
        for (int i = 0; i < street.size; i++) {
            int next = street.nextByDate(given, way);
            row.set(i, next);
            given |= 1 << next;
        }
        return street.dates.get(latest) - street.dates.get(earliest);
    }

    // ---- 6 by how many taps it took

    private int refusedPairs(Ints row) {
        int refused = refused(row);
        if (row == null || refused != 0) {
            return refused;
        }
        if (row.size % 2 != 0 || row.size > PAIRED_INTS_MOST) {
            return found(SIZE);
        }
        for (int i = 0; i < row.size; i += 2) {
            if (!isDate(row.get(i)) || !within(row.get(i + 1), 0, 9)) {
                return found(UNLIKE);
            }
        }
        return 0;
    }

    private static int tookOf(int kind, int date, int frost) {
        int taps = Kinds.taps(kind, date, frost);
        return taps == NONE ? 0 : taps;
    }

    private boolean canBe(int kind, Ints pairs) {
        for (int i = 0; i < pairs.size; i += 2) {
            if (tookOf(kind, pairs.get(i), street.frost) != pairs.get(i + 1)) {
                return false;
            }
        }
        return true;
    }

    private int kindsBy(Ints pairs) {
        int set = 0;
        for (int kind = 0; kind < KINDS; kind++) {
            if (canBe(kind, pairs)) {
                set |= 1 << kind;
            }
        }
        return set;
    }

    private static boolean holds(int set, int i) {
        return (set >> i & 1) != 0;
    }

    private int partOf(int set, int date, int took) {
        int part = 0;
        for (int kind = 0; kind < KINDS; kind++) {
            part += holds(set, kind) && tookOf(kind, date, street.frost) == took ? 1 : 0;
        }
        return part;
    }

    private int greatestPart(int set, int date) {
        int greatest = 0;
        for (int kind = 0; kind < KINDS; kind++) {
            if (holds(set, kind)) {
                int took = tookOf(kind, date, street.frost);
                greatest = Math.max(greatest, partOf(set, date, took));
            }
        }
        return greatest;
    }

    public int whose(int r) {
        Ints row = pick(rows, r);
        int refused = refusedPairs(row);
        if (row == null || refused != 0) {
            return refused;
        }
        int set = 0;
        for (int i = 0; i < street.size; i++) {
            if (canBe(street.kinds.get(i), row)) {
                set |= 1 << i;
            }
        }
        return set;
    }

    public int kinds(int r) {
        Ints row = pick(rows, r);
        int refused = refusedPairs(row);
        if (row == null || refused != 0) {
            return refused;
        }
        return kindsBy(row);
    }

    public int test(int r) {
        Ints row = pick(rows, r);
        int refused = refusedPairs(row);
        if (row == null || refused != 0) {
            return refused;
        }
        int set = kindsBy(row);
        if (set == 0) {
            return NONE;
        }
        int best = 0;
        int least = greatestPart(set, 0);
        for (int date = 1; date <= 99; date++) {
            int part = greatestPart(set, date);
            if (part < least) {
                least = part;
                best = date;
            }
        }
        asked = least;
        return best;
    }

    // ---- 7 what they pay

    public int sets(int v) {
        if (!within(v, 0, 99)) {
            return BAD;
        }
        if (street.size == 0) {
            return STATE;
        }
        int first = NONE;
        int many = 0;
        for (int set = 0; set < 1 << street.size; set++) {
            if (street.fees(set) == v) {
                first = many == 0 ? set : first;
                many++;
            }
        }
        asked = first;
        tellRatio(many, 1);
        return 1;
    }

    public int sure(int v) {
        if (!within(v, 0, 99)) {
            return BAD;
        }
        if (street.size == 0) {
            return STATE;
        }
        int all = (1 << street.size) - 1;
        int inEach = all;
        int inSome = 0;
        int many = 0;
        for (int set = 0; set <= all; set++) {
            if (street.fees(set) == v) {
                inEach &= set;
                inSome |= set;
                many++;
            }
        }
        if (many == 0) {
            return found(NOUGHT);
        }
        asked = all & ~inSome;
        return inEach;
    }

    // ---- 8 by turns

    public int duel(int n) {
        if (!within(n, 0, 3)) {
            return BAD;
        }
        if (street.size == 0) {
            return STATE;
        }
        // neither can spoil a house of the other one: each has as many awake as it can by itself
        asked = street.mostAwake(0, n) - street.mostAwake(1, n);
        return 1;
    }

    // ---- 9 chances, lots

    private static long power(long base, int n) {
        long product = 1;
        for (int i = 0; i < n; i++) {
            product *= base;
        }
        return product;
    }

    private static long ways(int n, int heard) {
        long many = 1;
        for (int i = 0; i < heard; i++) {
            many = many * (n - i) / (i + 1);
        }
        return many;
    }

    private static long weight(int n, int heard, int p) {
        return ways(n, heard) * power(p, heard) * power(12 - p, n - heard);
    }

    private static long divisor(long a, long b) {
        // a hundred steps are more than two longs can need
        for (int i = 0; i < 100 && b != 0; i++) {
            long rest = a % b;
            a = b;
            b = rest;
        }
        return a;
    }

    private void tellRatio(long up, long low) {
        long shared = divisor(up, low);
        upper = shared > 0 ? up / shared : up;
        lower = shared > 0 ? low / shared : low;
    }

    private boolean isTry(int i, int n, int p) {
        return street.isHouse(i) && within(n, 0, 8) && within(p, 0, 12);
    }

    public int odds(int i, int n, int p) {
        if (!isTry(i, n, p)) {
            return BAD;
        }
        int left = street.more(i);
        long good = 0;
        for (int heard = 0; heard <= n && left != NONE; heard++) {
            good += heard >= left ? weight(n, heard, p) : 0;
        }
        tellRatio(good, power(12, n));
        return 1;
    }

    public int mid(int i, int n, int p) {
        if (!isTry(i, n, p)) {
            return BAD;
        }
        int left = street.more(i);
        if (left == NONE) {
            return found(NOUGHT);
        }
        long sum = 0;
        for (int heard = 0; heard <= n; heard++) {
            sum += weight(n, heard, p) * Math.max(0, left - heard);
        }
        tellRatio(sum, power(12, n));
        return 1;
    }

    public int lots(int n, int seed) {
        if (!within(n, 1, 20) || seed < 1 || seed >= LOT_MODULUS) {
            return BAD;
        }
        if (street.size == 0) {
            return STATE;
        }
        if (isFull(n)) {
            return FULL;
        }
        long lot = seed;
        for (int k = 0; k < n; k++) {
            lot = lot * LOT_FACTOR % LOT_MODULUS;
            street.doesByLot((int) lot);
        }
        return Integer.bitCount(street.awakeSet());
    }

    // ---- 10 what is told

    public int asked() {
        return asked;
    }

    public long upper() {
        return upper;
    }

    public long lower() {
        return lower;
    }

    public int count(int what) {
        switch (what) {
            case 0: return street.size;
            case 1: return street.minute;
            case 2: return street.night;
            case 3: return street.deeds.size;
            case 4: return street.place;
            case 5: return street.frost;
            case 6: return street.awakeSet();
            case 7: return street.purse;
            case 8: return street.manyOf(HEAVY);
            case 9: return street.manyOf(RICH);
            case 10: return present(rows);
            case 11: return present(texts);
            case 12: return present(kept);
            case 13: return street.quarrel;
            default: return BAD;
        }
    }

    public int finding() {
        return finding;
    }

    public int findings(int f) {
        return within(f, NOTHING, SIZE) ? findings.get(f) : BAD;
    }

    public long digest() {
        long h = 17;
        for (int what = 0; what < COUNTS; what++) {
            h = 31 * h + count(what);
        }
        for (int i = 0; i < street.size; i++) {
            for (int what = 0; what < TELLS; what++) {
                h = 31 * h + street.tell(i, what);
            }
        }
        for (int k = 0; k < kept.length; k++) {
            Ints one = kept[k];
            h = 31 * h + (one == null ? -1 : one.size);
        }
        return digestOf(texts, digestOf(rows, h));
    }

    private static long digestOf(Ints[] all, long h) {
        for (int r = 0; r < all.length; r++) {
            Ints one = all[r];
            if (one != null) {
                h = 31 * h + one.size;
                for (int i = 0; i < one.size; i++) {
                    h = 31 * h + one.get(i);
                }
            }
        }
        return h;
    }

    /** Some ints in a room made once; every place is looked at before it is used. */
    private static final class Ints {
        private final int[] cells;
        // -1: missing
        int size = -1;

        Ints(int room) {
            cells = new int[Math.max(0, room)];
        }

        boolean has(int i) {
            return i >= 0 && i < size && i < cells.length;
        }

        int get(int i) {
            return i >= 0 && i < size && i < cells.length ? cells[i] : 0;
        }

        void set(int i, int v) {
            if (i >= 0 && i < size && i < cells.length) {
                cells[i] = v;
            }
        }

        void fill(int n, int v) {
            size = Math.max(0, Math.min(n, cells.length));
            for (int i = 0; i < size && i < cells.length; i++) {
                cells[i] = v;
            }
        }

        void add(int v) {
            if (size >= 0 && size < cells.length) {
                cells[size] = v;
                size++;
            }
        }

        void cut(int n) {
            size = Math.min(size, Math.max(0, n));
        }

        void drop() {
            size = -1;
        }

        boolean spans(int i, int n) {
            return i >= 0 && n >= 0 && i <= size - n && size <= cells.length;
        }

        void copyOut(int i, Ints into, int j, int n) {
            if (spans(i, n) && into.spans(j, n)) {
                System.arraycopy(cells, i, into.cells, j, n);
            }
        }

        void takeFrom(Ints other) {
            fill(other.size, 0);
            other.copyOut(0, this, 0, size);
        }
    }

    /** What the kind of a house makes of taps and of money. */
    private static final class Kinds {
        static int byLetter(int letter) {
            switch (letter) {
                case 'h': return HOUSE;
                case 'v': return HEAVY;
                case 'r': return RICH;
                case 'd': return DEAD;
                case 'i': return INFANT;
                case 'm': return MILL;
                default: return NONE;
            }
        }

        static boolean isOf(int kind, int wanted) {
            switch (wanted) {
                case HOUSE: return true;
                case HEAVY: return kind == HEAVY || kind == INFANT;
                case RICH: return kind == RICH || kind == MILL;
                default: return kind == wanted;
            }
        }

        static int taps(int kind, int date, int frost) {
            boolean frozen = frost != 0 && date >= 40 && date <= 49 && kind != MILL;
            if (kind == DEAD || frozen) {
                return NONE;
            }
            int taps = date <= 49 ? 2 : 1;
            switch (kind) {
                case HEAVY: return 2 * taps;
                case INFANT: return 2 * taps + 1;
                default: return taps;
            }
        }

        static int fee(int kind) {
            switch (kind) {
                case RICH: return 2;
                case DEAD: return 0;
                case MILL: return 5;
                default: return 1;
            }
        }
    }

    /** The houses of a town, and what has been done since its text was read. */
    private static final class Street {
        final Ints kinds = new Ints(HOUSES_MOST);
        final Ints wants = new Ints(HOUSES_MOST);
        private final Ints firstDates = new Ints(HOUSES_MOST);
        final Ints dates = new Ints(HOUSES_MOST);
        private final Ints tapped = new Ints(HOUSES_MOST);
        // NONE: asleep
        private final Ints years = new Ints(HOUSES_MOST);
        // all that changes comes from the text and the deeds: to keep a town is to keep these
        final Ints deeds = new Ints(DEEDS_MOST);
        int size;
        int quarrel;
        private int firstFrost;
        int frost;
        int minute;
        int night;
        int place;
        int purse;

        Street() {
            deeds.fill(0, 0);
        }

        void begin(int withFrost, int quarrelsBy) {
            size = 0;
            firstFrost = withFrost;
            quarrel = quarrelsBy;
            kinds.fill(0, 0);
            wants.fill(0, 0);
            firstDates.fill(0, 0);
        }

        void build(int kind, int date, int want) {
            kinds.add(kind);
            firstDates.add(date);
            wants.add(want);
            size = kinds.size;
        }

        private void sleep() {
            tapped.fill(size, 0);
            years.fill(size, NONE);
            minute = 0;
            place = 0;
        }

        void replay() {
            dates.takeFrom(firstDates);
            frost = firstFrost;
            night = 0;
            purse = 0;
            sleep();
            for (int k = 0; k < deeds.size; k++) {
                perform(deeds.get(k));
            }
        }

        void does(int deed, int door, int value) {
            int told = deed * 1000 + door * 100 + value;
            deeds.add(told);
            perform(told);
        }

        void doesByLot(int lot) {
            int door = size > 0 ? lot % size : 0;
            int sort = lot / 8 % 8;
            if (sort <= 1) {
                does(WALK, door, 0);
            } else if (sort <= 5) {
                does(TAP, 0, 0);
            } else if (sort == 6) {
                does(SLATE, door, lot / 64 % 100);
            } else {
                does(FROST, 0, 1 - frost);
            }
        }

        private void perform(int told) {
            int door = told / 100 % 10;
            int value = told % 100;
            switch (told / 1000) {
                case WALK:
                    minute += Math.abs(door - place);
                    place = door;
                    break;
                case TAP:
                    minute++;
                    hear(place);
                    break;
                case SLATE:
                    dates.set(door, value);
                    tapped.set(door, 0);
                    break;
                case FROST:
                    frost = value;
                    break;
                default:
                    night++;
                    sleep();
                    break;
            }
        }

        private void hear(int i) {
            tapped.set(i, tapped.get(i) + 1);
            int due = tapsFor(i, dates.get(i));
            if (!isAwake(i) && due != NONE && tapped.get(i) >= due) {
                years.set(i, dates.get(i));
                purse = Math.min(PURSE_MOST, purse + fee(i));
            }
        }

        boolean isHouse(int i) {
            return i >= 0 && i < size;
        }

        boolean isSet(int set) {
            return set >= 0 && set < 1 << size;
        }

        boolean isAwake(int i) {
            return isHouse(i) && years.get(i) != NONE;
        }

        int tapsFor(int i, int date) {
            return Kinds.taps(kinds.get(i), date, frost);
        }

        int fee(int i) {
            return Kinds.fee(kinds.get(i));
        }

        // One tap at least: a house can have been tapped enough while frost kept it asleep.
        int more(int i) {
            if (isAwake(i)) {
                return 0;
            }
            int due = tapsFor(i, dates.get(i));
            return due == NONE ? NONE : Math.max(1, due - tapped.get(i));
        }

        int tell(int i, int what) {
            switch (what) {
                case 0: return kinds.get(i);
                case 1: return dates.get(i);
                case 2: return wants.get(i);
                case 3: return tapped.get(i);
                case 4: return years.get(i);
                default: return more(i);
            }
        }

        int awakeSet() {
            int set = 0;
            for (int i = 0; i < size; i++) {
                if (isAwake(i)) {
                    set |= 1 << i;
                }
            }
            return set;
        }

        boolean canWake(int set) {
            for (int i = 0; i < size; i++) {
                if (holds(set, i) && more(i) <= 0) {
                    return false;
                }
            }
            return true;
        }

        int tapsLeft(int set) {
            int taps = 0;
            for (int i = 0; i < size; i++) {
                taps += holds(set, i) ? Math.max(0, more(i)) : 0;
            }
            return taps;
        }

        int fees(int set) {
            int sum = 0;
            for (int i = 0; i < size; i++) {
                sum += holds(set, i) ? fee(i) : 0;
            }
            return sum;
        }

        int manyOf(int kind) {
            int many = 0;
            for (int i = 0; i < size; i++) {
                many += Kinds.isOf(kinds.get(i), kind) ? 1 : 0;
            }
            return many;
        }

        int othersAwake(int i) {
            return Integer.bitCount(awakeSet()) - (isAwake(i) ? 1 : 0);
        }

        int othersEarlier(int i) {
            int many = 0;
            for (int other = 0; other < size; other++) {
                many += dates.get(other) < dates.get(i) ? 1 : 0;
            }
            return many;
        }

        int quarrelling() {
            int many = 0;
            for (int i = 0; i + 1 < size; i++) {
                int apart = Math.abs(years.get(i) - years.get(i + 1));
                many += isAwake(i) && isAwake(i + 1) && apart > quarrel ? 1 : 0;
            }
            return many;
        }

        // way 1: the earliest date of those that aren't given yet, -1: the latest
        int nextByDate(int given, int way) {
            int next = NONE;
            for (int i = 0; i < size; i++) {
                boolean ahead = next == NONE || way * dates.get(i) < way * dates.get(next);
                next = !holds(given, i) && ahead ? i : next;
            }
            return Math.max(0, next);
        }

        // those that want the fewest taps come first: so the most are awake
        int mostAwake(int first, int taps) {
            int many = 0;
            int rest = taps;
            for (int want = 0; want <= taps; want++) {
                for (int i = first; i < size; i += 2) {
                    if (more(i) == want && want <= rest) {
                        rest -= want;
                        many++;
                    }
                }
            }
            return many;
        }
    }

    /** Reads a town from a text, and stops at the first place at which it can't go on. */
    private static final class Reader {
        private Ints text;
        private int place;
        private boolean good;

        int read(Ints source, Street into) {
            text = source;
            place = 0;
            good = true;
            skipBlanks();
            letter('s');
            int frost = figure(1);
            into.begin(frost, twoFigures());
            for (int i = 0; i <= HOUSES_MOST && good; i++) {
                skipBlanks();
                boolean over = place >= source.size;
                if (over && i > 0) {
                    return NONE;
                }
                good = !over && i < HOUSES_MOST;
                readHouse(into);
            }
            return place;
        }

        private void readHouse(Street into) {
            int kind = Kinds.byLetter(sign());
            good = good && kind != NONE;
            place += good ? 1 : 0;
            int date = twoFigures();
            int want = twoFigures();
            if (good) {
                into.build(kind, date, want);
            }
        }

        // behind the end there is no letter and no figure
        private int sign() {
            return text == null ? 0 : text.get(place);
        }

        private void skipBlanks() {
            for (int i = 0; i < TEXT_ROOM && sign() == BLANK; i++) {
                place++;
            }
        }

        private void letter(int due) {
            good = good && sign() == due;
            place += good ? 1 : 0;
        }

        private int figure(int most) {
            int value = sign() - '0';
            good = good && value >= 0 && value <= most;
            place += good ? 1 : 0;
            return good ? value : 0;
        }

        private int twoFigures() {
            int tens = figure(9);
            return 10 * tens + figure(9);
        }
    }

    /** Seeks rounds in which each house is awake by the minute by which it wants to be. */
    private static final class Rounds {
        // for each set and the last house of it: the fewest minutes, NONE if it can't be
        private final Ints ends = new Ints((1 << HOUSES_MOST) * HOUSES_MOST);
        private final Ints order = new Ints(HOUSES_MOST);
        private final Ints more = new Ints(HOUSES_MOST);
        private final Ints spare = new Ints(HOUSES_MOST);
        final Ints best = new Ints(HOUSES_MOST);
        private int bestWalked;

        private void start(Street street) {
            more.fill(street.size, 0);
            spare.fill(street.size, 0);
            for (int i = 0; i < street.size; i++) {
                more.set(i, street.more(i));
                spare.set(i, street.wants.get(i) - street.minute);
            }
        }

        static int walkOver(int set, int place) {
            int least = HOUSES_MOST;
            int most = 0;
            for (int i = 0; i < HOUSES_MOST; i++) {
                if (holds(set, i)) {
                    least = Math.min(least, i);
                    most = i;
                }
            }
            int there = Math.min(Math.abs(place - least), Math.abs(place - most));
            return set == 0 ? 0 : most - least + there;
        }

        int fewest(Street street, int set) {
            start(street);
            int taps = street.tapsLeft(set);
            int none = 1000;
            bestWalked = none;
            order.fill(Integer.bitCount(set), 0);
            seek(this, 0, set, street.place, 0, 0);
            return bestWalked == none ? NONE : bestWalked + taps;
        }

        // The taps are the same in each order: the order that walks least is the soonest.
        private static void seek(Rounds r, int depth, int left, int place, int minutes, int walked) {
            if (depth > HOUSES_MOST || walked + walkOver(left, place) >= r.bestWalked) {
                return;
            }
            if (left == 0) {
                r.bestWalked = walked;
                r.best.takeFrom(r.order);
                return;
            }
            for (int i = 0; i < HOUSES_MOST; i++) {
                int way = Math.abs(i - place);
                int then = minutes + way + r.more.get(i);
                if (holds(left, i) && then <= r.spare.get(i)) {
                    r.order.set(depth, i);
                    seek(r, depth + 1, left & ~(1 << i), i, then, walked + way);
                }
            }
        }

        int greatest(Street street) {
            start(street);
            ends.fill(HOUSES_MOST << street.size, NONE);
            int best = 0;
            for (int set = 1; set < 1 << street.size; set++) {
                boolean can = false;
                for (int last = 0; last < street.size; last++) {
                    int end = holds(set, last) ? endAt(set, last, street.place) : NONE;
                    ends.set(set * HOUSES_MOST + last, end);
                    can = can || end != NONE;
                }
                best = can && Integer.bitCount(set) > Integer.bitCount(best) ? set : best;
            }
            return best;
        }

        private int endAt(int set, int last, int place) {
            if (more.get(last) <= 0) {
                return NONE;
            }
            int others = set & ~(1 << last);
            int end = others == 0 ? Math.abs(last - place) : NONE;
            for (int i = 0; i < HOUSES_MOST; i++) {
                int ahead = holds(others, i) ? ends.get(others * HOUSES_MOST + i) : NONE;
                int there = ahead + Math.abs(last - i);
                if (ahead != NONE && (end == NONE || there < end)) {
                    end = there;
                }
            }
            boolean soon = end != NONE && end + more.get(last) <= spare.get(last);
            return soon ? end + more.get(last) : NONE;
        }
    }
}
