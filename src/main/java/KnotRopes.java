import java.util.Arrays;

/** Messages knotted into ropes: each knot makes the rope shorter, and it must still go round the bale. */
public final class KnotRopes {
    public static final int BAD = -1, FULL = -2, FINDING = -3, STATE = -4, SPENT = -6, NONE = -9;

    private static final int NOTHING = 1, BEYOND = 2, UNLIKE = 3, NOUGHT = 4, SIZE = 5, LAST_FINDING = 5;

    /** What is answered instead of a refusal, where there is none. */
    private static final int FIT = 0;

    private static final int ROWS = 6, TEXTS = 4, KEPT = 3;
    private static final int ROW_ROOM = 40, TEXT_ROOM = 80, ROPE_ROOM = 20, MESSAGE_ROOM = 12;
    private static final int MOST_KNOTS = 6, MOST_PAIRS = 6, MOST_MATTERS = 6;
    private static final int BOTH_ROOM = 5;
    private static final int MOST_LENGTH = 99, ROOMS = MOST_LENGTH + 1;
    private static final int SIGNS = 10, TAKES_END = 100;
    private static final int MISSING = -1;

    private static final int LOOP = 1, BEND = 2, HITCH = 3, SHEEP = 4, WILL = 5, LAST_KIND = 5;
    private static final int KNOT_FACTS = 5, COUNTS = 9;

    /** Stands for the last KNOT of a ROPE that has none yet. */
    private static final int START = MOST_KNOTS;
    private static final int LASTS = MOST_KNOTS + 1;

    /** More than any ROPE can TAKE. */
    private static final int NEVER = 1000;

    private static final long LOT_FACTOR = 48271L, LOT_MODULUS = 2147483647L;

    private final Row[] rows = new Row[ROWS];
    private final Text[] texts = new Text[TEXTS];
    private final Row theRope = new Row();
    private final Row[] keptRopes = new Row[KEPT];
    private final int[] keptLengths = new int[KEPT];
    private final Craft theCraft = new Craft();
    private final CraftText reader = new CraftText();
    private final Tally tally = new Tally(theCraft);
    private final Saying saying = new Saying(theCraft);
    private final SignSwap swap = new SignSwap(theCraft, saying);
    private final BothEnds bothEnds = new BothEnds(theCraft, saying);
    private final Packing packing = new Packing();
    private final Readings readings = new Readings();
    private final Row attempt = new Row();
    private final Row line = new Row();
    private final Row wholeLine = new Row();
    private final int[] findingCounts = new int[LAST_FINDING + 1];
    private int latestFinding;
    private int told;
    private long toldUpper;

    public KnotRopes() {
        for (int i = 0; i < ROWS; i++) {
            rows[i] = new Row();
            rows[i].size = MISSING;
        }
        for (int i = 0; i < TEXTS; i++) {
            texts[i] = new Text();
        }
        for (int i = 0; i < KEPT; i++) {
            keptRopes[i] = new Row();
            keptRopes[i].size = MISSING;
        }
    }

    // ---- 1 rows, texts, crafts

    public int row(int r, int n) {
        if (!isRow(r) || n > ROW_ROOM) {
            return BAD;
        }
        if (n < 0) {
            return refuse(SIZE);
        }
        Arrays.fill(rows[r].places, 0);
        rows[r].size = n;
        return n;
    }

    public int lay(int r, int i, int v) {
        if (!isRow(r)) {
            return BAD;
        }
        int refusal = refusalOfPlace(rows[r].size, i);
        if (refusal != FIT) {
            return refusal;
        }
        told = rows[r].places[i];
        rows[r].places[i] = v;
        return 1;
    }

    public int at(int r, int i) {
        if (!isRow(r)) {
            return BAD;
        }
        int refusal = refusalOfPlace(rows[r].size, i);
        if (refusal != FIT) {
            return refusal;
        }
        told = rows[r].places[i];
        return 1;
    }

    public int tear(int r) {
        if (!isRow(r)) {
            return BAD;
        }
        if (rows[r].size < 0) {
            return refuse(NOTHING);
        }
        rows[r].size = MISSING;
        return 1;
    }

    public int copy(int r, int i, int to, int j, int n) {
        if (!isRow(r) || !isRow(to)) {
            return BAD;
        }
        if (n < 0) {
            return refuse(SIZE);
        }
        Row from = rows[r];
        Row into = rows[to];
        if (from.size < 0 || into.size < 0) {
            return refuse(NOTHING);
        }
        if (!from.hasStretch(i, n) || !into.hasStretch(j, n)) {
            return refuse(BEYOND);
        }
        System.arraycopy(from.places, i, into.places, j, n);
        return 1;
    }

    public int mean(int r) {
        if (!isRow(r)) {
            return BAD;
        }
        Row row = rows[r];
        if (row.size < 0) {
            return refuse(NOTHING);
        }
        if (row.size == 0) {
            return refuse(NOUGHT);
        }
        long sum = 0;
        for (int i = 0; i < row.size; i++) {
            sum += row.places[i];
        }
        told = (int) (sum / row.size);
        return 1;
    }

    public int text(int t, int n) {
        if (!isText(t) || n > TEXT_ROOM) {
            return BAD;
        }
        if (n < 0) {
            return refuse(SIZE);
        }
        Arrays.fill(texts[t].bytes, (byte) ' ');
        texts[t].size = n;
        return n;
    }

    public int put(int t, int i, int v) {
        if (!isText(t)) {
            return BAD;
        }
        int refusal = refusalOfPlace(texts[t].size, i);
        if (refusal != FIT) {
            return refusal;
        }
        int was = texts[t].bytes[i];
        texts[t].bytes[i] = (byte) v;
        return was + 1000;
    }

    public int fault(int t) {
        if (!isText(t)) {
            return BAD;
        }
        if (texts[t].size < 0) {
            return refuse(NOTHING);
        }
        return reader.faultOf(texts[t]);
    }

    public int craft(int t) {
        if (!isText(t)) {
            return BAD;
        }
        if (texts[t].size < 0) {
            return refuse(NOTHING);
        }
        if (reader.faultOf(texts[t]) != NONE) {
            return STATE;
        }
        theCraft.beAs(reader);
        tally.forget();
        theRope.size = 0;
        for (int i = 0; i < KEPT; i++) {
            keptRopes[i].size = MISSING;
        }
        return theCraft.knotCount;
    }

    public int knot(int k, int what) {
        if (!theCraft.hasKnot(k) || what < 0 || what >= KNOT_FACTS) {
            return BAD;
        }
        told = theCraft.knotFact(k, what);
        return 1;
    }

    public int mark(int k, int kind) {
        if (!theCraft.hasKnot(k) || kind < 1 || kind > LAST_KIND) {
            return BAD;
        }
        if (!theCraft.isOfKind(k, kind)) {
            return refuse(UNLIKE);
        }
        switch (kind) {
            case LOOP:
                return theCraft.takesAlone(k) - theCraft.sizes[k];
            case BEND:
                return theCraft.takesAlone(k) - 1;
            case HITCH:
                return theCraft.takesAlone(k) + theCraft.endMore[k];
            case SHEEP:
                return theCraft.pairsWith(k);
            default:
                return theRope.howMany(k);
        }
    }

    public int length(int v) {
        if (v < 1 || v > MOST_LENGTH) {
            return BAD;
        }
        if (theCraft.knotCount == 0 || theCraft.girth > v) {
            return STATE;
        }
        int was = theCraft.length;
        theCraft.length = v;
        return was;
    }

    public int sign(int k, int v) {
        if (!theCraft.hasKnot(k) || v < 0 || v >= SIGNS) {
            return BAD;
        }
        int had = theCraft.signs[k];
        theCraft.signs[k] = v;
        return had;
    }

    // ---- 2 the rope

    public int tie(int k) {
        if (!theCraft.hasKnot(k)) {
            return BAD;
        }
        attempt.become(theRope);
        attempt.add(k);
        if (!theCraft.isRight(attempt)) {
            return STATE;
        }
        if (theRope.size >= ROPE_ROOM) {
            return FULL;
        }
        theRope.add(k);
        return theCraft.spareOf(theRope);
    }

    public int untie(int n) {
        if (n < 0 || n > theRope.size) {
            return BAD;
        }
        for (int i = theRope.size - n; i < theRope.size; i++) {
            if (theCraft.isWill(theRope.places[i])) {
                return STATE;
            }
        }
        theRope.size -= n;
        return theRope.size;
    }

    public int rope(int i) {
        if (i < 0) {
            return BAD;
        }
        if (i >= theRope.size) {
            return refuse(BEYOND);
        }
        return theRope.places[i];
    }

    public int left() {
        told = theCraft.spareOf(theRope);
        return theRope.size;
    }

    public int reads(int r) {
        if (!isRow(r)) {
            return BAD;
        }
        theCraft.read(theRope, line);
        rows[r].become(line);
        return line.size;
    }

    public int lies(int r) {
        if (!isRow(r)) {
            return BAD;
        }
        rows[r].become(theRope);
        return theRope.size;
    }

    public int keep(int k) {
        if (k < 0 || k >= KEPT) {
            return BAD;
        }
        if (theCraft.knotCount == 0) {
            return STATE;
        }
        keptRopes[k].become(theRope);
        keptLengths[k] = theCraft.length;
        return theRope.size;
    }

    public int on(int k) {
        if (k < 0 || k >= KEPT) {
            return BAD;
        }
        if (keptRopes[k].size < 0) {
            return refuse(NOTHING);
        }
        theRope.become(keptRopes[k]);
        theCraft.length = keptLengths[k];
        return theRope.size;
    }

    // ---- 3 ropes told by rows

    public int judge(int r) {
        int refusal = refusalOfKnots(r, r, r, ROPE_ROOM);
        if (refusal != FIT) {
            return refusal;
        }
        Row knots = rows[r];
        int last = START;
        int taken = 0;
        for (int i = 0; i < knots.size; i++) {
            int next = knots.places[i];
            taken += theCraft.takesBehind(last, next);
            boolean barred = theCraft.isBarred(last, next);
            if (barred || taken + theCraft.endMore[next] > theCraft.room()) {
                told = barred ? 1 : 2;
                return i;
            }
            last = next;
        }
        told = 0;
        return knots.size;
    }

    public int takes(int r) {
        int refusal = refusalOfKnots(r, r, r, ROPE_ROOM);
        return refusal != FIT ? refusal : theCraft.measure(rows[r]);
    }

    public int says(int r, int to) {
        int refusal = refusalOfKnots(r, r, to, ROPE_ROOM);
        if (refusal != FIT) {
            return refusal;
        }
        theCraft.read(rows[r], line);
        rows[to].become(line);
        return line.size;
    }

    public int ropes(int n) {
        if (n < 0 || n > ROPE_ROOM) {
            return BAD;
        }
        toldUpper = tally.ropesOf(n);
        return 1;
    }

    public int nth(int n, int i, int r) {
        if (n < 0 || n > ROPE_ROOM || i < 0 || !isRow(r)) {
            return BAD;
        }
        if (i >= tally.ropesOf(n)) {
            return refuse(NOUGHT);
        }
        tally.find(n, i, rows[r]);
        return theCraft.measure(rows[r]);
    }

    // ---- 4 messages

    public int shortest(int r, int to) {
        int refusal = refusalOfMessage(r, r, to);
        if (refusal != FIT) {
            return refusal;
        }
        saying.begin(rows[r], theCraft.signs);
        int taken = saying.leastOfAll();
        if (taken > theCraft.room()) {
            return NONE;
        }
        rows[to].clear();
        saying.spell(Saying.BEGINNING, rows[to]);
        return taken;
    }

    public int ways(int r) {
        int refusal = refusalOfMessage(r, r, r);
        if (refusal != FIT) {
            return refusal;
        }
        saying.begin(rows[r], theCraft.signs);
        toldUpper = saying.howManyWays(theCraft.room());
        return 1;
    }

    public int signs(int r, int to) {
        int refusal = refusalOfMessage(r, r, to);
        if (refusal != FIT) {
            return refusal;
        }
        int taken = swap.search(rows[r]);
        if (taken > theCraft.room()) {
            return NONE;
        }
        rows[to].become(swap.best);
        return taken;
    }

    public int change(int r, int to) {
        int refusal = refusalOfMessage(r, r, to);
        if (refusal != FIT) {
            return refusal;
        }
        saying.begin(rows[r], theCraft.signs);
        for (int untied = 0; untied <= theRope.size; untied++) {
            attempt.become(theRope);
            attempt.size -= untied;
            if (untied > 0 && theCraft.isWill(theRope.places[attempt.size])) {
                return NONE;
            }
            if (saying.goOnFrom(attempt)) {
                rows[to].become(attempt);
                return untied;
            }
        }
        return NONE;
    }

    public int both(int r, int q, int to) {
        int refusal = refusalOfMessage(r, q, to);
        if (refusal != FIT) {
            return refusal;
        }
        int taken = bothEnds.search(rows[r], rows[q]);
        if (taken > theCraft.room()) {
            return NONE;
        }
        rows[to].become(bothEnds.best);
        return taken;
    }

    // ---- 5 slips, moths, several ropes

    public int slips(int r) {
        int refusal = refusalOfKnots(r, r, r, ROPE_ROOM);
        if (refusal != FIT) {
            return refusal;
        }
        readings.clear();
        theCraft.read(rows[r], wholeLine);
        int harmless = 0;
        for (int i = 0; i < rows[r].size; i++) {
            readWithout(rows[r], i);
            readings.addUnlike(line);
            if (line.isLike(wholeLine)) {
                harmless |= 1 << i;
            }
        }
        told = harmless;
        return readings.size;
    }

    public int apart(int r, int q) {
        int refusal = refusalOfKnots(r, q, r, ROPE_ROOM);
        if (refusal != FIT) {
            return refusal;
        }
        readings.clear();
        theCraft.read(rows[r], line);
        readings.addUnlike(line);
        for (int i = 0; i < rows[r].size; i++) {
            readWithout(rows[r], i);
            readings.addUnlike(line);
        }
        theCraft.read(rows[q], line);
        boolean alike = readings.has(line);
        for (int i = 0; i < rows[q].size && !alike; i++) {
            readWithout(rows[q], i);
            alike = readings.has(line);
        }
        return alike ? 0 : 1;
    }

    public int lent(int r) {
        int refusal = refusalOfKnots(r, r, r, ROPE_ROOM - 1);
        if (refusal != FIT) {
            return refusal;
        }
        Row rest = rows[r];
        int found = 0;
        int common = -1;
        for (int i = 0; i <= rest.size; i++) {
            for (int k = 0; k < theCraft.knotCount; k++) {
                // Ahead of its like and behind it are the same ROPE: only behind is counted.
                boolean counted = i < rest.size && rest.places[i] == k;
                if (counted || theCraft.isWill(k)) {
                    continue;
                }
                attempt.becomeWith(rest, i, k);
                if (theCraft.isRight(attempt)) {
                    found++;
                    theCraft.read(attempt, line);
                    common &= line.bits();
                }
            }
        }
        told = found == 0 ? 0 : common;
        return found;
    }

    public int moths(int r, int i, int to) {
        int refusal = refusalOfKnots(r, r, to, ROPE_ROOM);
        if (refusal != FIT) {
            return refusal;
        }
        if (i < 0 || i > rows[r].size) {
            return refuse(BEYOND);
        }
        attempt.becomeTurned(rows[r], i);
        rows[to].become(attempt);
        return theCraft.measure(attempt);
    }

    public int cuts(int r) {
        int refusal = refusalOfKnots(r, r, r, ROPE_ROOM);
        if (refusal != FIT) {
            return refusal;
        }
        int found = 0;
        int first = NONE;
        for (int i = 1; i < rows[r].size; i++) {
            attempt.becomeTurned(rows[r], i);
            if (theCraft.isRight(attempt)) {
                first = found == 0 ? i : first;
                found++;
            }
        }
        told = first;
        return found;
    }

    public int packs(int r) {
        int refusal = refusalOfRows(r, r, r, MOST_MATTERS, TAKES_END);
        if (refusal != FIT) {
            return refusal;
        }
        for (int i = 0; i < rows[r].size; i++) {
            if (rows[r].places[i] > theCraft.room()) {
                return NONE;
            }
        }
        packing.pack(rows[r], theCraft.room());
        told = packing.withFirst;
        return packing.fewest;
    }

    // ---- 6 lots

    public int lots(int n, int seed, int r) {
        if (n < 0 || n > ROPE_ROOM || seed < 1 || seed >= LOT_MODULUS || !isRow(r)) {
            return BAD;
        }
        attempt.clear();
        long number = seed;
        for (int i = 0; i < n; i++) {
            int fitting = knotsThatFit(attempt);
            int many = Integer.bitCount(fitting);
            if (many == 0) {
                break;
            }
            number = number * LOT_FACTOR % LOT_MODULUS;
            attempt.add(numberOfBit(fitting, (int) (number % many)));
        }
        rows[r].become(attempt);
        return attempt.size;
    }

    // ---- 7 what is told

    public int asked() {
        return told;
    }

    public long upper() {
        return toldUpper;
    }

    public long upTo(int n) {
        if (n < 0 || n > ROPE_ROOM) {
            return 0;
        }
        long sum = 0;
        for (int i = 0; i <= n; i++) {
            sum += tally.ropesOf(i);
        }
        return sum;
    }

    public int count(int what) {
        switch (what) {
            case 0:
                return theCraft.knotCount;
            case 1:
                return theRope.size;
            case 2:
                return theCraft.knotsOfKind(LOOP);
            case 3:
                return theCraft.knotsOfKind(BEND);
            case 4:
                return theCraft.lawCount;
            case 5:
                return theCraft.pairCount;
            case 6:
                return rowsThere(rows);
            case 7:
                return textsThere();
            case 8:
                return rowsThere(keptRopes);
            default:
                return BAD;
        }
    }

    public int finding() {
        return latestFinding;
    }

    public int findings(int f) {
        return f < 1 || f > LAST_FINDING ? BAD : findingCounts[f];
    }

    public long digest() {
        long h = 17;
        for (int what = 0; what < COUNTS; what++) {
            h = 31 * h + count(what);
        }
        h = theCraft.digestOn(h);
        h = theRope.digestOn(h);
        for (int i = 0; i < KEPT; i++) {
            h = 31 * h + keptRopes[i].size;
        }
        for (int i = 0; i < ROWS; i++) {
            h = rows[i].digestOn(31 * h + rows[i].size);
        }
        for (int i = 0; i < TEXTS; i++) {
            h = texts[i].digestOn(31 * h + texts[i].size);
        }
        return h;
    }

    // ---- what several calls need

    private int refuse(int finding) {
        latestFinding = finding;
        findingCounts[finding]++;
        return FINDING;
    }

    private static boolean isRow(int r) {
        return r >= 0 && r < ROWS;
    }

    private static boolean isText(int t) {
        return t >= 0 && t < TEXTS;
    }

    private int refusalOfPlace(int size, int i) {
        if (size < 0) {
            return refuse(NOTHING);
        }
        return i < 0 || i >= size ? refuse(BEYOND) : FIT;
    }

    private int refusalOfKnots(int r, int q, int to, int most) {
        return refusalOfRows(r, q, to, most, theCraft.knotCount);
    }

    private int refusalOfMessage(int r, int q, int to) {
        return refusalOfRows(r, q, to, MESSAGE_ROOM, SIGNS);
    }

    /** Two ROWS (perhaps the same) of so many at most, of numbers from 0 up to an end, and one that something comes to. */
    private int refusalOfRows(int r, int q, int to, int most, int end) {
        if (!isRow(r) || !isRow(q) || !isRow(to)) {
            return BAD;
        }
        Row a = rows[r];
        Row b = rows[q];
        if (a.size < 0 || b.size < 0) {
            return refuse(NOTHING);
        }
        if (a.size > most || b.size > most) {
            return refuse(SIZE);
        }
        return a.isBelow(end) && b.isBelow(end) ? FIT : refuse(UNLIKE);
    }

    private void readWithout(Row knots, int i) {
        attempt.becomeWithout(knots, i);
        theCraft.read(attempt, line);
    }

    /** Bits of the KNOTS behind which a ROPE is still RIGHT. */
    private int knotsThatFit(Row knots) {
        int fitting = 0;
        for (int k = 0; k < theCraft.knotCount; k++) {
            knots.add(k);
            if (theCraft.isRight(knots)) {
                fitting |= 1 << k;
            }
            knots.size--;
        }
        return fitting;
    }

    /** The number of the bit that has so many set bits below it. */
    private static int numberOfBit(int bits, int below) {
        int seen = 0;
        for (int k = 0; k < MOST_KNOTS; k++) {
            if ((bits >> k & 1) != 0) {
                if (seen == below) {
                    return k;
                }
                seen++;
            }
        }
        return 0;
    }

    private static int rowsThere(Row[] some) {
        int there = 0;
        for (int i = 0; i < some.length; i++) {
            there += some[i].size < 0 ? 0 : 1;
        }
        return there;
    }

    private int textsThere() {
        int there = 0;
        for (int i = 0; i < TEXTS; i++) {
            there += texts[i].size < 0 ? 0 : 1;
        }
        return there;
    }

    /** One way for each room that is enough to end, none for less. */
    private static void setWays(long[] ways, int spot, int enough) {
        for (int room = 0; room < ROOMS; room++) {
            ways[spot + room] = room >= enough ? 1 : 0;
        }
    }

    /** Adds to each room the ways that are left when so much of it is taken. */
    private static void addWays(long[] ways, int spot, int nextSpot, int taken) {
        for (int room = taken; room < ROOMS; room++) {
            ways[spot + room] += ways[nextSpot + room - taken];
        }
    }

    /** A row of ints with room for the longest; its size is MISSING if it isn't there. */
    private static final class Row {
        final int[] places = new int[ROW_ROOM];
        int size;

        void clear() {
            size = 0;
        }

        void add(int v) {
            if (size >= 0 && size < ROW_ROOM) {
                places[size] = v;
                size++;
            }
        }

        void become(Row other) {
            System.arraycopy(other.places, 0, places, 0, Math.max(0, other.size));
            size = other.size;
        }

        void becomeWithout(Row other, int place) {
            clear();
            for (int i = 0; i < other.size; i++) {
                if (i != place) {
                    add(other.places[i]);
                }
            }
        }

        void becomeWith(Row other, int place, int v) {
            clear();
            for (int i = 0; i < other.size; i++) {
                if (i == place) {
                    add(v);
                }
                add(other.places[i]);
            }
            if (place == other.size) {
                add(v);
            }
        }

        void becomeTurned(Row other, int place) {
            clear();
            for (int i = place; i < other.size; i++) {
                add(other.places[i]);
            }
            for (int i = 0; i < place; i++) {
                add(other.places[i]);
            }
        }

        void becomeReversed(Row other) {
            clear();
            for (int i = other.size - 1; i >= 0; i--) {
                add(other.places[i]);
            }
        }

        boolean hasStretch(int i, int n) {
            return i >= 0 && i <= size && n <= size - i;
        }

        boolean isBelow(int end) {
            for (int i = 0; i < size; i++) {
                if (places[i] < 0 || places[i] >= end) {
                    return false;
                }
            }
            return true;
        }

        boolean isLike(Row other) {
            if (size != other.size) {
                return false;
            }
            for (int i = 0; i < size; i++) {
                if (places[i] != other.places[i]) {
                    return false;
                }
            }
            return true;
        }

        int howMany(int v) {
            int many = 0;
            for (int i = 0; i < size; i++) {
                many += places[i] == v ? 1 : 0;
            }
            return many;
        }

        int bits() {
            int bits = 0;
            for (int i = 0; i < size; i++) {
                bits |= 1 << places[i];
            }
            return bits;
        }

        long digestOn(long h) {
            for (int i = 0; i < size; i++) {
                h = 31 * h + places[i];
            }
            return h;
        }
    }

    private static final class Text {
        final byte[] bytes = new byte[TEXT_ROOM];
        int size = MISSING;

        long digestOn(long h) {
            for (int i = 0; i < size; i++) {
                h = 31 * h + bytes[i];
            }
            return h;
        }
    }

    /** Unlike ROWS of SIGNS: what a ROPE and it less each of its KNOTS READ, at most. */
    private static final class Readings {
        final Row[] lines = new Row[ROPE_ROOM + 1];
        int size;

        Readings() {
            for (int i = 0; i < lines.length; i++) {
                lines[i] = new Row();
            }
        }

        void clear() {
            size = 0;
        }

        boolean has(Row line) {
            for (int i = 0; i < size; i++) {
                if (lines[i].isLike(line)) {
                    return true;
                }
            }
            return false;
        }

        void addUnlike(Row line) {
            if (size < lines.length && !has(line)) {
                lines[size].become(line);
                size++;
            }
        }
    }

    /** Reads a TEXT as a CRAFT: finds its FAULT, or keeps what it tells. */
    private static final class CraftText {
        static final int KNOT_SORT = 0, LAW_SORT = 1, PAIR_SORT = 2, SORTS = 3, NO_SORT = -1;
        static final int SLOTS = 6;
        static final int NO_FIGURE = -1;

        // Slots 0 .. 5 hold KNOTS (KIND, SIZE, SIGN), 6 .. 11 LAWS, 12 .. 17 PAIRS (KNOT, KNOT, SIGN).
        final int[] first = new int[SORTS * SLOTS];
        final int[] second = new int[SORTS * SLOTS];
        final int[] third = new int[SORTS * SLOTS];
        final int[] counts = new int[SORTS];
        int length;
        int girth;
        private int place;
        private int turn;

        int faultOf(Text text) {
            Arrays.fill(counts, 0);
            place = 0;
            turn = KNOT_SORT;
            skipBlanks(text);
            if (place >= text.size || text.bytes[place] != 'r') {
                return place;
            }
            place++;
            length = twoFigures(text);
            if (length < 0) {
                return place;
            }
            int girthPlace = place;
            girth = twoFigures(text);
            if (girth < 0) {
                return place;
            }
            return girth > length ? girthPlace : faultOfItems(text);
        }

        private int faultOfItems(Text text) {
            for (int i = 0; i <= TEXT_ROOM; i++) {
                skipBlanks(text);
                if (place >= text.size) {
                    return NONE;
                }
                if (!takeItem(text)) {
                    return place;
                }
            }
            return NONE;
        }

        private void skipBlanks(Text text) {
            for (int i = place; i < text.size && text.bytes[i] == ' '; i++) {
                place++;
            }
        }

        private boolean takeItem(Text text) {
            int letter = text.bytes[place];
            int kind = kindOf(letter);
            int sort = sortOf(letter, kind);
            if (sort < turn || counts[sort] >= SLOTS) {
                return false;
            }
            place++;
            int slot = sort * SLOTS + counts[sort];
            boolean whole = sort == KNOT_SORT ? takeKnot(text, slot, kind) : takeLawOrPair(text, slot, sort);
            if (whole) {
                turn = sort;
                counts[sort]++;
            }
            return whole;
        }

        private boolean takeKnot(Text text, int slot, int kind) {
            first[slot] = kind;
            second[slot] = figure(text, 1, 9);
            if (second[slot] < 0) {
                return false;
            }
            third[slot] = figure(text, 0, 9);
            return third[slot] >= 0;
        }

        private boolean takeLawOrPair(Text text, int slot, int sort) {
            int lastKnot = counts[KNOT_SORT] - 1;
            first[slot] = figure(text, 0, lastKnot);
            if (first[slot] < 0) {
                return false;
            }
            second[slot] = figure(text, 0, lastKnot);
            if (second[slot] < 0 || sort == LAW_SORT) {
                return second[slot] >= 0;
            }
            third[slot] = figure(text, 0, 9);
            return third[slot] >= 0;
        }

        private int twoFigures(Text text) {
            int tens = figure(text, 0, 9);
            if (tens < 0) {
                return NO_FIGURE;
            }
            int ones = figure(text, 0, 9);
            return ones < 0 ? NO_FIGURE : 10 * tens + ones;
        }

        /** Goes on behind a figure within the bounds; stays at what is none, so that this is the FAULT. */
        private int figure(Text text, int low, int high) {
            if (place >= text.size) {
                return NO_FIGURE;
            }
            int value = text.bytes[place] - '0';
            if (value < low || value > high) {
                return NO_FIGURE;
            }
            place++;
            return value;
        }

        private static int kindOf(int letter) {
            switch (letter) {
                case 'k':
                    return 0;
                case 'o':
                    return LOOP;
                case 'b':
                    return BEND;
                case 'h':
                    return HITCH;
                case 's':
                    return SHEEP;
                case 'w':
                    return WILL;
                default:
                    return -1;
            }
        }

        private static int sortOf(int letter, int kind) {
            if (kind >= 0) {
                return KNOT_SORT;
            }
            if (letter == 'x') {
                return LAW_SORT;
            }
            return letter == 'y' ? PAIR_SORT : NO_SORT;
        }
    }

    /** The CRAFT, with what its KNOTS TAKE and mean beside each other worked out ahead. */
    private static final class Craft {
        static final int NO_PAIR = -1;

        int length;
        int girth;
        int knotCount;
        int lawCount;
        int pairCount;
        final int[] kinds = new int[MOST_KNOTS];
        final int[] sizes = new int[MOST_KNOTS];
        final int[] signs = new int[MOST_KNOTS];
        final int[] pairFirsts = new int[MOST_PAIRS];
        final int[] pairSeconds = new int[MOST_PAIRS];
        final int[] pairSigns = new int[MOST_PAIRS];
        /** Bits of the KNOTS that may not stand just behind one; none at the START. */
        final int[] barred = new int[LASTS];
        /** What the last KNOT TAKES more for being the last. */
        final int[] endMore = new int[LASTS];
        private final int[] takenBehind = new int[LASTS * MOST_KNOTS];
        private final int[] pairedSigns = new int[MOST_KNOTS * MOST_KNOTS];
        /** Bits of the SIGNS of PAIRS that a KNOT begins, ends. */
        final int[] pairsBegun = new int[MOST_KNOTS];
        final int[] pairsEnded = new int[MOST_KNOTS];

        void beAs(CraftText told) {
            length = told.length;
            girth = told.girth;
            knotCount = told.counts[CraftText.KNOT_SORT];
            lawCount = told.counts[CraftText.LAW_SORT];
            pairCount = told.counts[CraftText.PAIR_SORT];
            System.arraycopy(told.first, 0, kinds, 0, knotCount);
            System.arraycopy(told.second, 0, sizes, 0, knotCount);
            System.arraycopy(told.third, 0, signs, 0, knotCount);
            int pairSlot = CraftText.PAIR_SORT * CraftText.SLOTS;
            System.arraycopy(told.first, pairSlot, pairFirsts, 0, pairCount);
            System.arraycopy(told.second, pairSlot, pairSeconds, 0, pairCount);
            System.arraycopy(told.third, pairSlot, pairSigns, 0, pairCount);
            barByLaws(told);
            workOutTakes();
            workOutPairs();
        }

        private void barByLaws(CraftText told) {
            Arrays.fill(barred, 0);
            for (int i = 0; i < lawCount; i++) {
                int slot = CraftText.LAW_SORT * CraftText.SLOTS + i;
                barred[told.first[slot]] |= 1 << told.second[slot];
            }
        }

        private void workOutTakes() {
            for (int k = 0; k < knotCount; k++) {
                endMore[k] = kinds[k] == HITCH ? 1 : 0;
                takenBehind[START * MOST_KNOTS + k] = takesAlone(k);
                for (int last = 0; last < knotCount; last++) {
                    boolean closer = isOfKind(k, BEND) && isOfKind(last, BEND);
                    takenBehind[last * MOST_KNOTS + k] = takesAlone(k) - (closer ? 1 : 0);
                }
            }
        }

        private void workOutPairs() {
            Arrays.fill(pairedSigns, NO_PAIR);
            Arrays.fill(pairsBegun, 0);
            Arrays.fill(pairsEnded, 0);
            for (int i = 0; i < pairCount; i++) {
                int a = pairFirsts[i];
                int b = pairSeconds[i];
                boolean sheep = kinds[a] == SHEEP || kinds[b] == SHEEP;
                if (!sheep && pairedSign(a, b) == NO_PAIR) {
                    pairedSigns[a * MOST_KNOTS + b] = pairSigns[i];
                    pairsBegun[a] |= 1 << pairSigns[i];
                    pairsEnded[b] |= 1 << pairSigns[i];
                }
            }
        }

        boolean hasKnot(int k) {
            return k >= 0 && k < knotCount;
        }

        boolean isOfKind(int k, int kind) {
            int own = kinds[k];
            return own == kind || own == HITCH && kind == LOOP || own == SHEEP && kind == BEND;
        }

        boolean isWill(int k) {
            return kinds[k] == WILL;
        }

        int knotsOfKind(int kind) {
            int many = 0;
            for (int k = 0; k < knotCount; k++) {
                many += isOfKind(k, kind) ? 1 : 0;
            }
            return many;
        }

        int takesAlone(int k) {
            return isOfKind(k, LOOP) ? 2 * sizes[k] : sizes[k];
        }

        int takesBehind(int last, int k) {
            return takenBehind[last * MOST_KNOTS + k];
        }

        boolean isBarred(int last, int k) {
            return (barred[last] >> k & 1) != 0;
        }

        int pairedSign(int a, int b) {
            return pairedSigns[a * MOST_KNOTS + b];
        }

        int pairsWith(int k) {
            int many = 0;
            for (int i = 0; i < pairCount; i++) {
                many += pairFirsts[i] == k || pairSeconds[i] == k ? 1 : 0;
            }
            return many;
        }

        int knotFact(int k, int what) {
            switch (what) {
                case 0:
                    return kinds[k];
                case 1:
                    return sizes[k];
                case 2:
                    return signs[k];
                case 3:
                    return takesAlone(k);
                default:
                    return barred[k];
            }
        }

        /** How much a RIGHT ROPE may TAKE. */
        int room() {
            return length - girth;
        }

        int measure(Row knots) {
            int last = START;
            int taken = 0;
            for (int i = 0; i < knots.size; i++) {
                taken += takesBehind(last, knots.places[i]);
                last = knots.places[i];
            }
            return taken + endMore[last];
        }

        int spareOf(Row knots) {
            return length - measure(knots);
        }

        boolean isRight(Row knots) {
            for (int i = 1; i < knots.size; i++) {
                if (isBarred(knots.places[i - 1], knots.places[i])) {
                    return false;
                }
            }
            return measure(knots) <= room();
        }

        void read(Row knots, Row into) {
            into.clear();
            for (int i = 0; i < knots.size; i++) {
                int here = knots.places[i];
                boolean isLast = i + 1 == knots.size;
                int paired = isLast ? NO_PAIR : pairedSign(here, knots.places[i + 1]);
                if (paired == NO_PAIR) {
                    into.add(signs[here]);
                } else {
                    into.add(paired);
                    i++;
                }
            }
        }

        long digestOn(long h) {
            h = 31 * h + length;
            h = 31 * h + girth;
            for (int k = 0; k < knotCount; k++) {
                for (int what = 0; what < KNOT_FACTS; what++) {
                    h = 31 * h + knotFact(k, what);
                }
            }
            for (int i = 0; i < pairCount; i++) {
                h = 31 * h + pairFirsts[i];
                h = 31 * h + pairSeconds[i];
                h = 31 * h + pairSigns[i];
            }
            return h;
        }
    }

    /** How many RIGHT ROPES there are, by how many KNOTS are still to come, the last KNOT, and the room left. */
    private static final class Tally {
        private final Craft craft;
        private final long[] goingOn = new long[(ROPE_ROOM + 1) * LASTS * ROOMS];
        /** Levels (KNOTS still to come) that are worked out for this CRAFT. */
        private int levels;

        Tally(Craft craft) {
            this.craft = craft;
        }

        void forget() {
            levels = 0;
        }

        long ropesOf(int knots) {
            workOut(knots);
            return goingOn[spot(knots, START) + craft.room()];
        }

        /** ROPE number i of so many KNOTS; there must be as many. */
        void find(int knots, long i, Row into) {
            workOut(knots);
            into.clear();
            int last = START;
            int room = craft.room();
            long ahead = i;
            for (int after = knots - 1; after >= 0; after--) {
                for (int k = 0; k < craft.knotCount; k++) {
                    int taken = craft.takesBehind(last, k);
                    if (craft.isBarred(last, k) || taken > room) {
                        continue;
                    }
                    long many = goingOn[spot(after, k) + room - taken];
                    if (ahead < many) {
                        into.add(k);
                        last = k;
                        room -= taken;
                        break;
                    }
                    ahead -= many;
                }
            }
        }

        private void workOut(int knots) {
            for (int level = levels; level <= knots; level++) {
                for (int last = 0; last < LASTS; last++) {
                    if (last == START || last < craft.knotCount) {
                        workOutSpot(level, last);
                    }
                }
                levels = level + 1;
            }
        }

        private void workOutSpot(int level, int last) {
            int spot = spot(level, last);
            setWays(goingOn, spot, level == 0 ? craft.endMore[last] : NEVER);
            for (int k = 0; k < craft.knotCount && level > 0; k++) {
                if (!craft.isBarred(last, k)) {
                    addWays(goingOn, spot, spot(level - 1, k), craft.takesBehind(last, k));
                }
            }
        }

        private static int spot(int level, int last) {
            return (level * LASTS + last) * ROOMS;
        }
    }

    /**
     * How a MESSAGE can be said, KNOT by KNOT. A cell tells how far it is: how many SIGNS are settled,
     * how many PAIRS were used, the last KNOT, and whether this one is OPEN (it may yet begin a PAIR,
     * so its SIGN isn't settled) or SHUT (it ended a PAIR, or there is none yet).
     */
    private static final class Saying {
        /** A cell that is SHUT comes so many behind the one that is OPEN. */
        static final int SHUT = LASTS;
        /** PAIRS are counted for MESSAGES above half a ROPE alone: no other ROPE can get too long by them. */
        static final int PAIR_COUNTS = ROPE_ROOM / 2;
        static final int PER_PAIRS = 2 * LASTS, PER_SETTLED = PAIR_COUNTS * PER_PAIRS;
        static final int CELLS = (MESSAGE_ROOM + 1) * PER_SETTLED;
        static final int BEGINNING = SHUT + START;
        static final int NOWHERE = -1;

        private final Craft craft;
        private final Row message = new Row();
        private final int[] signs = new int[MOST_KNOTS];
        private int pairCounts;
        /** The least that is still TAKEN until the MESSAGE is said. */
        private final int[] least = new int[CELLS];
        /** In how many ways it is said, by room left; of two neighbouring numbers of settled SIGNS alone. */
        private final long[] goingOn = new long[2 * PER_SETTLED * ROOMS];

        Saying(Craft craft) {
            this.craft = craft;
        }

        void begin(Row what, int[] signsOfKnots) {
            message.become(what);
            System.arraycopy(signsOfKnots, 0, signs, 0, MOST_KNOTS);
            boolean neverTooLong = message.size + placesForPairs() <= ROPE_ROOM;
            pairCounts = neverTooLong ? 1 : ROPE_ROOM - message.size + 1;
            for (int settled = message.size; settled >= 0; settled--) {
                int from = settled * PER_SETTLED;
                for (int cell = from; cell < from + pairCounts * PER_PAIRS; cell++) {
                    least[cell] = canBe(cell) ? leastBy(cell) : NEVER;
                }
            }
        }

        private int placesForPairs() {
            int pairSigns = 0;
            for (int k = 0; k < craft.knotCount; k++) {
                pairSigns |= craft.pairsBegun[k];
            }
            int many = 0;
            for (int i = 0; i < message.size; i++) {
                many += pairSigns >> message.places[i] & 1;
            }
            return many;
        }

        int leastOfAll() {
            return least[BEGINNING];
        }

        int leastFrom(int cell) {
            return least[cell];
        }

        /** What the last KNOT TAKES more, if the ROPE may end here; else NEVER. */
        int ending(int cell) {
            int settled = cell / PER_SETTLED;
            int last = cell % LASTS;
            if (isShut(cell)) {
                return settled == message.size ? craft.endMore[last] : NEVER;
            }
            boolean said = settled + 1 == message.size && signs[last] == message.places[settled];
            return said ? craft.endMore[last] : NEVER;
        }

        /** The cell that one more KNOT leads to, or NOWHERE. */
        int onward(int cell, int k) {
            int settled = cell / PER_SETTLED;
            int last = cell % LASTS;
            if (settled >= message.size || craft.isBarred(last, k)) {
                return NOWHERE;
            }
            if (isShut(cell)) {
                return cell - SHUT - last + k;
            }
            int paired = craft.pairedSign(last, k);
            if (paired == Craft.NO_PAIR) {
                boolean goesOn = settled + 1 < message.size && signs[last] == message.places[settled];
                return goesOn ? cell + PER_SETTLED - last + k : NOWHERE;
            }
            int morePairs = pairCounts == 1 ? 0 : 1;
            int pairs = cell / PER_PAIRS % PAIR_COUNTS + morePairs;
            if (paired != message.places[settled] || pairs >= pairCounts) {
                return NOWHERE;
            }
            return cell + PER_SETTLED + morePairs * PER_PAIRS + SHUT - last + k;
        }

        /** Appends the first of the ROPES that go on from a cell and TAKE least. */
        void spell(int from, Row into) {
            int cell = from;
            for (int i = 0; i < ROPE_ROOM && ending(cell) != least[cell]; i++) {
                int k = firstOfLeast(cell);
                if (k == NOWHERE) {
                    return;
                }
                into.add(k);
                cell = onward(cell, k);
            }
        }

        /** Whether a ROPE with such a beginning can say it; then that becomes it. */
        boolean goOnFrom(Row beginning) {
            int cell = BEGINNING;
            int last = START;
            int taken = 0;
            for (int i = 0; i < beginning.size; i++) {
                int k = beginning.places[i];
                taken += craft.takesBehind(last, k);
                cell = onward(cell, k);
                if (cell == NOWHERE) {
                    return false;
                }
                last = k;
            }
            if (taken + least[cell] > craft.room()) {
                return false;
            }
            spell(cell, beginning);
            return true;
        }

        long howManyWays(int room) {
            if (least[BEGINNING] > room) {
                return 0;
            }
            for (int settled = message.size; settled >= 0; settled--) {
                int from = settled * PER_SETTLED;
                for (int cell = from; cell < from + pairCounts * PER_PAIRS; cell++) {
                    if (least[cell] < NEVER) {
                        countWays(cell);
                    }
                }
            }
            return goingOn[spot(BEGINNING) + room];
        }

        private void countWays(int cell) {
            int spot = spot(cell);
            setWays(goingOn, spot, ending(cell));
            for (int k = 0; k < craft.knotCount; k++) {
                int next = onward(cell, k);
                if (next != NOWHERE && least[next] < NEVER) {
                    addWays(goingOn, spot, spot(next), craft.takesBehind(cell % LASTS, k));
                }
            }
        }

        private static boolean isShut(int cell) {
            return cell % PER_PAIRS >= SHUT;
        }

        private static int spot(int cell) {
            return cell % (2 * PER_SETTLED) * ROOMS;
        }

        /** Whether a ROPE can come to a cell, and its last KNOT has to do with the SIGNS beside it. */
        private boolean canBe(int cell) {
            int settled = cell / PER_SETTLED;
            int last = cell % LASTS;
            if (cell == BEGINNING) {
                return true;
            }
            if (last >= craft.knotCount) {
                return false;
            }
            if (isShut(cell)) {
                return settled > 0 && (craft.pairsEnded[last] >> message.places[settled - 1] & 1) != 0;
            }
            if (settled >= message.size) {
                return false;
            }
            int sign = message.places[settled];
            return signs[last] == sign || (craft.pairsBegun[last] >> sign & 1) != 0;
        }

        private int leastBy(int cell) {
            int best = ending(cell);
            for (int k = 0; k < craft.knotCount; k++) {
                best = Math.min(best, leastWith(cell, k));
            }
            return best;
        }

        private int leastWith(int cell, int k) {
            int next = onward(cell, k);
            if (next == NOWHERE || least[next] >= NEVER) {
                return NEVER;
            }
            return craft.takesBehind(cell % LASTS, k) + least[next];
        }

        private int firstOfLeast(int cell) {
            for (int k = 0; k < craft.knotCount; k++) {
                if (leastWith(cell, k) == least[cell]) {
                    return k;
                }
            }
            return NOWHERE;
        }
    }

    /** Looks for the best way to change SIGNS among the KNOTS for a MESSAGE. */
    private static final class SignSwap {
        private final Craft craft;
        private final Saying saying;
        private final int[] signsNow = new int[MOST_KNOTS];
        private final Row whose = new Row();
        private Row message = new Row();
        private int signBits;
        private int leastYet;
        final Row best = new Row();

        SignSwap(Craft craft, Saying saying) {
            this.craft = craft;
            this.saying = saying;
        }

        /** The least that is TAKEN; more than the room, if it can't be said. */
        int search(Row what) {
            message = what;
            signBits = what.bits();
            leastYet = craft.room() + 1;
            whose.clear();
            assign(0, 0);
            return leastYet;
        }

        /** Goes no deeper than there are KNOTS. */
        private void assign(int k, int given) {
            if (k >= craft.knotCount) {
                saying.begin(message, signsNow);
                if (saying.leastOfAll() < leastYet) {
                    leastYet = saying.leastOfAll();
                    best.become(whose);
                }
                return;
            }
            for (int owner = 0; owner < craft.knotCount; owner++) {
                if ((given >> owner & 1) == 0 && !hasLikeAhead(owner, given)) {
                    signsNow[k] = craft.signs[owner];
                    whose.add(owner);
                    assign(k + 1, given | 1 << owner);
                    whose.size--;
                }
            }
        }

        /** Whether a SIGN ahead that is still to be given does as well: then this one isn't the first way. */
        private boolean hasLikeAhead(int owner, int given) {
            for (int other = 0; other < owner; other++) {
                if ((given >> other & 1) == 0 && doesAsWell(craft.signs[other], craft.signs[owner])) {
                    return true;
                }
            }
            return false;
        }

        private boolean doesAsWell(int a, int b) {
            boolean needless = (signBits >> a & 1) == 0 && (signBits >> b & 1) == 0;
            return a == b || needless;
        }
    }

    /** Looks for the ROPE that READS one way from its beginning, another way from its end. */
    private static final class BothEnds {
        private final Craft craft;
        private final Saying saying;
        private final Row knots = new Row();
        private final Row turned = new Row();
        private final Row line = new Row();
        private Row backward = new Row();
        private int leastYet;
        final Row best = new Row();

        BothEnds(Craft craft, Saying saying) {
            this.craft = craft;
            this.saying = saying;
        }

        /** The least that is TAKEN; more than the room, if there is no such ROPE. */
        int search(Row forward, Row back) {
            backward = back;
            leastYet = craft.room() + 1;
            knots.clear();
            saying.begin(forward, craft.signs);
            goOn(Saying.BEGINNING, START, 0);
            return leastYet;
        }

        /** Goes in the order of ROPES, no deeper than BOTH_ROOM. */
        private void goOn(int cell, int last, int taken) {
            int whole = taken + saying.ending(cell);
            if (whole < leastYet && readsBackward()) {
                leastYet = whole;
                best.become(knots);
            }
            if (knots.size >= BOTH_ROOM) {
                return;
            }
            for (int k = 0; k < craft.knotCount; k++) {
                int next = saying.onward(cell, k);
                int then = taken + craft.takesBehind(last, k);
                if (next != Saying.NOWHERE && then + saying.leastFrom(next) < leastYet) {
                    knots.add(k);
                    goOn(next, k, then);
                    knots.size--;
                }
            }
        }

        private boolean readsBackward() {
            turned.becomeReversed(knots);
            craft.read(turned, line);
            return line.isLike(backward);
        }
    }

    /** Puts matters on as few ropes as can be. */
    private static final class Packing {
        private static final int SETS = 1 << MOST_MATTERS;

        private final int[] taken = new int[SETS];
        private final int[] ropesFor = new int[SETS];
        int fewest;
        int withFirst;

        /** None of the matters may be too long by itself. */
        void pack(Row matters, int room) {
            withFirst = 0;
            int all = (1 << matters.size) - 1;
            for (int set = 1; set <= all; set++) {
                taken[set] = sumOf(matters, set);
                withFirst = firstRope(set, room);
                ropesFor[set] = 1 + ropesFor[set ^ withFirst];
            }
            fewest = ropesFor[all];
        }

        private static int sumOf(Row matters, int set) {
            int sum = 0;
            for (int i = 0; i < matters.size; i++) {
                sum += (set >> i & 1) == 0 ? 0 : matters.places[i];
            }
            return sum;
        }

        /** The least part that has the lowest matter, fits on one rope, and leaves the fewest ropes. */
        private int firstRope(int set, int room) {
            int lowest = set & -set;
            int best = lowest;
            for (int part = lowest; part <= set; part++) {
                boolean fits = (part & set) == part && (part & lowest) != 0 && taken[part] <= room;
                if (fits && ropesFor[set ^ part] < ropesFor[set ^ best]) {
                    best = part;
                }
            }
            return best;
        }
    }
}
