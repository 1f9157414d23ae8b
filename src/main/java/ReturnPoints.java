import java.util.Arrays;

/** Maps by polynomials modulo a prime, the ways of their points, and fractions that return. */
public final class ReturnPoints {
    public static final int NONE = -1000000, BAD = -1000001, FULL = -1000003;

    private static final int FOUND = -1000010;
    private static final int NOTHING_FOUND = 0, NULL = 1, PLACE = 2, KIND = 3, SIZE = 4, STORE = 5;

    private static final int FLAT = 1, STRAIGHT = 2, SQUARE = 3, PLAIN = 4, HIGH = 5;
    private static final int ANY_KIND = 0, LAST_KIND = 5;

    private static final int SHEETS = 8, LAST_LANE = 2, MOST_ITEMS = 40;
    private static final int BYTES = 0, INTS = 1;
    private static final int PLACES = 10;
    private static final int NUMBERS = 5, HIGHEST_DEGREE = 4;
    private static final int LEAST_PRIME = 3, GREATEST_PRIME = 199, USUAL_PRIME = 101;
    private static final int MOST_TRACED = 16;
    private static final int MOST_STEPS = 1000000000;
    private static final int LONGEST_PERIOD = 6, HIGHEST_POWER = 64;
    private static final int WIDEST_UPPER = 10000, GREATEST_LOWER = 30, WIDEST_START = 1000;

    private final int p;
    private final Sheet[] sheets;
    private final Poly[] shelf;
    private final int[] trace;
    private final Roads roads;
    private final Roads otherRoads;
    private final Rounds rounds;
    private final Fractions fractions;
    private int traced;
    private int status;

    public ReturnPoints(int p) {
        this.p = isPrimeHere(p) ? p : USUAL_PRIME;
        sheets = new Sheet[SHEETS];
        shelf = new Poly[PLACES];
        trace = new int[MOST_TRACED];
        roads = new Roads(this.p);
        otherRoads = new Roads(this.p);
        rounds = new Rounds(this.p);
        fractions = new Fractions();
        traced = 0;
        status = NOTHING_FOUND;
    }

    // ---- sheets

    public int sheet(int sheet, int lane, int n) {
        if (!isSheet(sheet) || lane < 0 || lane > LAST_LANE || n > MOST_ITEMS) {
            return BAD;
        }
        if (n < 0) {
            return found(SIZE);
        }
        sheets[sheet] = new Sheet(lane, n);
        return fine(n);
    }

    public long set(int sheet, int i, long v) {
        if (!isSheet(sheet)) {
            return BAD;
        }
        Sheet to = sheets[sheet];
        if (to == null) {
            return found(NULL);
        }
        if (!to.holds(i, 1)) {
            return found(PLACE);
        }
        to.items[i] = to.cut(v);
        status = NOTHING_FOUND;
        return to.items[i];
    }

    public int copy(int a, int i, int b, int j, int n) {
        if (!isSheet(a) || !isSheet(b)) {
            return BAD;
        }
        Sheet from = sheets[a];
        Sheet to = sheets[b];
        if (from == null || to == null) {
            return found(NULL);
        }
        if (from.lane != to.lane) {
            return found(STORE);
        }
        if (!from.holds(i, n) || !to.holds(j, n)) {
            return found(PLACE);
        }
        System.arraycopy(from.items, i, to.items, j, n);
        return fine(n);
    }

    public int drop(int sheet) {
        if (!isSheet(sheet)) {
            return BAD;
        }
        Sheet gone = sheets[sheet];
        if (gone == null) {
            return found(NULL);
        }
        sheets[sheet] = null;
        return fine(gone.items.length);
    }

    // ---- maps (places: of THE SHELF; all tell the KIND of what a place has then)

    public int map(int place, int sheet, int i, int n) {
        if (!isPlace(place) || !isSheet(sheet) || n < 1 || n > NUMBERS) {
            return BAD;
        }
        Sheet from = sheets[sheet];
        if (from == null) {
            return found(NULL);
        }
        if (!from.holds(i, n)) {
            return found(PLACE);
        }
        int[] c = new int[NUMBERS];
        for (int k = 0; k < n; k++) {
            c[k] = (int) Math.floorMod(from.items[i + k], (long) p);
        }
        return put(place, c);
    }

    public int plain(int place, int c) {
        if (!isPlace(place)) {
            return BAD;
        }
        int[] numbers = new int[NUMBERS];
        numbers[0] = Math.floorMod(c, p);
        numbers[2] = 1;
        return put(place, numbers);
    }

    public int turn(int to, int place, int u, int v) {
        int by = Math.floorMod(u, p);
        if (!isPlace(to) || !isPlace(place) || by == 0) {
            return BAD;
        }
        Poly map = shelf[place];
        if (map == null) {
            return found(NULL);
        }
        return put(to, map.turned(by, Math.floorMod(v, p)));
    }

    public int behind(int to, int a, int b) {
        if (!isPlace(to) || !isPlace(a) || !isPlace(b)) {
            return BAD;
        }
        Poly outer = shelf[a];
        Poly inner = shelf[b];
        if (outer == null || inner == null) {
            return found(NULL);
        }
        if (outer.degree * inner.degree > HIGHEST_DEGREE) {
            return FULL;
        }
        int[] c = new int[NUMBERS];
        outer.putOver(inner.c, inner.degree, c);
        return put(to, c);
    }

    public int clear(int place) {
        if (!isPlace(place)) {
            return BAD;
        }
        int had = shelf[place] == null ? 0 : 1;
        shelf[place] = null;
        return had;
    }

    // ---- asked

    public int number(int place, int k) {
        if (!isPlace(place) || k < -1 || k > HIGHEST_DEGREE) {
            return BAD;
        }
        Poly map = shelf[place];
        if (map == null) {
            return found(NULL);
        }
        return fine(k < 0 ? map.degree : map.c[k]);
    }

    public int kind(int place) {
        if (!isPlace(place)) {
            return BAD;
        }
        Poly map = shelf[place];
        return map == null ? found(NULL) : fine(map.told);
    }

    public int is(int place, int kind) {
        if (!isPlace(place) || !isKind(kind)) {
            return BAD;
        }
        Poly map = shelf[place];
        return map != null && map.fits(kind) ? 1 : 0;
    }

    public int as(int place, int kind) {
        if (!isPlace(place) || !isKind(kind)) {
            return BAD;
        }
        Poly map = shelf[place];
        if (map == null) {
            return found(NULL);
        }
        return map.fits(kind) ? fine(map.degree) : found(KIND);
    }

    public int ask(int place, int what) {
        if (!isPlace(place) || what < 0 || what > 1) {
            return BAD;
        }
        traced = 0;
        Poly map = shelf[place];
        if (map == null) {
            return found(NULL);
        }
        roads.survey(map);
        return fine(what == 0 ? sizeAsked(map) : markAsked(map));
    }

    public int trace(int i) {
        return i >= 0 && i < traced ? trace[i] : NONE;
    }

    // ---- ways, rings

    public int step(int place, int x, int n) {
        if (!isPlace(place) || !isPoint(x) || n < 0 || n > MOST_STEPS) {
            return BAD;
        }
        Poly map = shelf[place];
        return map == null ? found(NULL) : fine(roadsOf(map).orbits.after(x, n));
    }

    public int way(int place, int x, int what) {
        if (!isPlace(place) || !isPoint(x) || what < 0 || what > 3) {
            return BAD;
        }
        Poly map = shelf[place];
        return map == null ? found(NULL) : fine(roadsOf(map).ofPoint(x, what));
    }

    public int ring(int place, int i, int what) {
        if (!isPlace(place) || what < 0 || what > 3) {
            return BAD;
        }
        Poly map = shelf[place];
        return map == null ? found(NULL) : fine(roadsOf(map).ofRing(i, what));
    }

    public int all(int place, int what) {
        if (!isPlace(place) || what < 0 || what > 5) {
            return BAD;
        }
        Poly map = shelf[place];
        return map == null ? found(NULL) : fine(roadsOf(map).ofAll(what));
    }

    public int alike(int a, int b) {
        if (!isPlace(a) || !isPlace(b)) {
            return BAD;
        }
        Poly one = shelf[a];
        Poly other = shelf[b];
        if (one == null || other == null) {
            return found(NULL);
        }
        roads.survey(one);
        otherRoads.survey(other);
        return fine(roads.isLike(otherRoads.orbits) ? 1 : 0);
    }

    public int round(int place, int n, int k) {
        if (!isPlace(place) || n < 1 || n > LONGEST_PERIOD || k < -1) {
            return BAD;
        }
        Poly map = shelf[place];
        if (map == null) {
            return found(NULL);
        }
        if (map.degree < 2) {
            return found(KIND);
        }
        if (Rounds.power(map.degree, n) > HIGHEST_POWER) {
            return FULL;
        }
        rounds.prepare(map, n);
        return fine(k < 0 ? rounds.degreeOf(n) : rounds.numberOf(n, k));
    }

    // ---- fractions

    public int fraction(int a, int d, int i, int what) {
        if (!isPair(a, d) || what < 0 || what > 2) {
            return BAD;
        }
        fractions.prepare(a, d);
        return i == NONE ? fractions.listed : fractions.ofListed(i, what);
    }

    public int next(int a, int d, int n) {
        if (!isPair(a, d) || n < -WIDEST_START || n > WIDEST_START || commonDivisor(n, d) != 1) {
            return BAD;
        }
        return Fractions.image(a, d, n);
    }

    public int count(int what) {
        switch (what) {
            case 0:
                return sheetsThere();
            case 1:
                return mapsOf(ANY_KIND);
            case 2:
                return mapsOf(FLAT);
            case 3:
                return mapsOf(STRAIGHT);
            case 4:
                return mapsOf(SQUARE);
            case 5:
                return mapsOf(PLAIN);
            case 6:
                return mapsOf(HIGH);
            case 7:
                return p;
            default:
                return BAD;
        }
    }

    public int status() {
        return status;
    }

    // ---- what the calls share

    private int found(int finding) {
        status = finding;
        return FOUND - finding;
    }

    private int fine(int answer) {
        status = NOTHING_FOUND;
        return answer;
    }

    private int put(int place, int[] c) {
        Poly made = new Poly(c, p);
        shelf[place] = made;
        return fine(made.told);
    }

    private Roads roadsOf(Poly map) {
        roads.survey(map);
        return roads;
    }

    private boolean isPoint(int x) {
        return x >= 0 && x < p;
    }

    private int sheetsThere() {
        int there = 0;
        for (Sheet sheet : sheets) {
            if (sheet != null) {
                there++;
            }
        }
        return there;
    }

    private int mapsOf(int kind) {
        int there = 0;
        for (Poly map : shelf) {
            if (map != null && map.fits(kind)) {
                there++;
            }
        }
        return there;
    }

    private static boolean isSheet(int sheet) {
        return sheet >= 0 && sheet < SHEETS;
    }

    private static boolean isPlace(int place) {
        return place >= 0 && place < PLACES;
    }

    private static boolean isKind(int kind) {
        return kind >= ANY_KIND && kind <= LAST_KIND;
    }

    private static boolean isPair(int a, int d) {
        return a >= -WIDEST_UPPER && a <= WIDEST_UPPER && d >= 1 && d <= GREATEST_LOWER
            && commonDivisor(a, d) == 1;
    }

    private static boolean isPrimeHere(int n) {
        if (n < LEAST_PRIME || n > GREATEST_PRIME) {
            return false;
        }
        for (int by = 2; by * by <= n; by++) {
            if (n % by == 0) {
                return false;
            }
        }
        return true;
    }

    /** For numbers within -10000 .. 10000: so that no sign is lost, and few turns are enough. */
    private static int commonDivisor(int a, int b) {
        int high = Math.abs(a);
        int low = Math.abs(b);
        for (int turn = 0; turn < 100 && low != 0; turn++) {
            int rest = high % low;
            high = low;
            low = rest;
        }
        return high;
    }

    /** The number that gives 1 with v, modulo a prime; 0 of 0. */
    private static int inverse(int v, int prime) {
        for (int i = 1; i < prime; i++) {
            if (v * i % prime == 1) {
                return i;
            }
        }
        return 0;
    }

    // ---- ASKS: no KIND is below PLAIN or HIGH, so what these ask anew is known ahead;
    // the bodies name it straight, and no call stands within itself. ask() has the MAP
    // surveyed ahead of them, so that they stand few calls deep

    private int sizeAsked(Poly map) {
        switch (map.told) {
            case STRAIGHT:
                return body11();
            case SQUARE:
                return body12();
            case PLAIN:
                return body13(map);
            default:
                return body10();
        }
    }

    private int markAsked(Poly map) {
        switch (map.told) {
            case SQUARE:
                return body21(map);
            case PLAIN:
                return body22(map);
            case HIGH:
                return body23(map);
            default:
                return body20(map);
        }
    }

    private void begin(int body) {
        if (traced < trace.length) {
            trace[traced] = body;
            traced++;
        }
    }

    private int body10() {
        begin(10);
        return p - roads.pointsWithoutComers();
    }

    private int body11() {
        begin(11);
        return p;
    }

    private int body12() {
        begin(12);
        return 2 * body10();
    }

    private int body13(Poly map) {
        begin(13);
        int size = body12();
        return size + body22(map);
    }

    private int body20(Poly map) {
        begin(20);
        return map.c[0];
    }

    private int body21(Poly map) {
        begin(21);
        return body20(map) + p;
    }

    private int body22(Poly map) {
        begin(22);
        int mark = body21(map);
        return mark + roads.orbits.period[0];
    }

    private int body23(Poly map) {
        begin(23);
        int mark = body20(map);
        return mark + body10();
    }

    /** Items of one lane; all are kept as longs, cut to the lane when they come in. */
    private static final class Sheet {
        final int lane;
        final long[] items;

        Sheet(int lane, int n) {
            this.lane = lane;
            items = new long[Math.max(n, 0)];
        }

        /** Whether n items from i on are all there; in long, as i + n may be beyond an int. */
        boolean holds(int i, int n) {
            return i >= 0 && n >= 0 && (long) i + n <= items.length;
        }

        long cut(long v) {
            if (lane == BYTES) {
                return (byte) v;
            }
            return lane == INTS ? (int) v : v;
        }
    }

    /** A MAP: five numbers modulo p, the higher ones 0 beyond the degree; never changed. */
    private static final class Poly {
        final int p;
        final int[] c;
        final int degree;
        final int told;

        /** Keeps the row c, which is nobody else's: NUMBERS of it, each 0 .. p - 1. */
        Poly(int[] c, int p) {
            this.p = p;
            this.c = c;
            degree = degreeOf(c);
            told = toldOf(c, degree);
        }

        private static int degreeOf(int[] c) {
            int degree = c.length - 1;
            while (degree > 0 && c[degree] == 0) {
                degree--;
            }
            return degree;
        }

        private static int toldOf(int[] c, int degree) {
            switch (degree) {
                case 0:
                    return FLAT;
                case 1:
                    return STRAIGHT;
                case 2:
                    return c[2] == 1 && c[1] == 0 ? PLAIN : SQUARE;
                default:
                    return HIGH;
            }
        }

        boolean fits(int kind) {
            return kind == ANY_KIND || kind == told || kind == SQUARE && told == PLAIN;
        }

        int valueAt(int x) {
            int value = 0;
            for (int k = degree; k >= 0; k--) {
                value = (value * x + c[k]) % p;
            }
            return value;
        }

        int slopeAt(int x) {
            int slope = 0;
            for (int k = degree; k >= 1; k--) {
                slope = (slope * x + k * c[k]) % p;
            }
            return slope;
        }

        int[] turned(int u, int v) {
            int[] line = {v, u};
            int[] out = new int[NUMBERS];
            putOver(line, 1, out);
            out[0] = Math.floorMod(out[0] - v, p);
            int byU = inverse(u, p);
            for (int k = 0; k < out.length; k++) {
                out[k] = out[k] * byU % p;
            }
            return out;
        }

        /** out becomes this polynomial of the inner one; it needs a place for each power. */
        void putOver(int[] inner, int innerDegree, int[] out) {
            Arrays.fill(out, 0);
            out[0] = c[degree];
            int outDegree = 0;
            for (int k = degree - 1; k >= 0; k--) {
                multiply(out, outDegree, inner, innerDegree, p);
                outDegree += innerDegree;
                out[0] = (out[0] + c[k]) % p;
            }
        }

        /** From the highest power down, as each power needs the old lower ones of the row. */
        private static void multiply(int[] row, int rowDegree, int[] by, int byDegree, int p) {
            for (int k = Math.min(rowDegree + byDegree, row.length - 1); k >= 0; k--) {
                int sum = 0;
                for (int i = Math.max(0, k - rowDegree); i <= Math.min(k, byDegree); i++) {
                    sum += row[k - i] * by[i];
                }
                row[k] = sum % p;
            }
        }
    }

    /** The ways of points 0 .. size - 1, each with the one that follows, or one outside: gone. */
    private static final class Orbits {
        static final int GONE = 0;
        private static final int UNSEEN = -1, OPEN = -2;

        final int size;
        final int[] next;
        final int[] tail;
        final int[] period;
        final int[] entry;
        private final int[] path;

        Orbits(int size) {
            this.size = size;
            next = new int[size];
            tail = new int[size];
            period = new int[size];
            entry = new int[size];
            path = new int[size];
        }

        boolean isInside(int x) {
            return x >= 0 && x < size;
        }

        void followAll() {
            Arrays.fill(period, UNSEEN);
            for (int x = 0; x < size; x++) {
                walkFrom(x);
            }
        }

        private void walkFrom(int x) {
            int steps = 0;
            int at = x;
            while (steps < size && isInside(at) && period[at] == UNSEEN) {
                period[at] = OPEN;
                path[steps] = at;
                steps++;
                at = next[at];
            }
            int open = isInside(at) && period[at] == OPEN ? closeRing(at, steps) : steps;
            for (int i = open - 1; i >= 0; i--) {
                hang(path[i]);
            }
        }

        /** The path came to its own point at: what is ahead of that point stays open. */
        private int closeRing(int at, int steps) {
            int first = Math.max(steps - 1, 0);
            while (first > 0 && path[first] != at) {
                first--;
            }
            for (int i = first; i < steps; i++) {
                tail[path[i]] = 0;
                period[path[i]] = steps - first;
                entry[path[i]] = path[i];
            }
            return first;
        }

        private void hang(int x) {
            int to = next[x];
            if (isInside(to) && period[to] != GONE) {
                tail[x] = tail[to] + 1;
                period[x] = period[to];
                entry[x] = entry[to];
            } else {
                tail[x] = 0;
                period[x] = GONE;
                entry[x] = x;
            }
        }

        int after(int x, int n) {
            int steps = n;
            if (n > tail[x] && period[x] > 0) {
                steps = tail[x] + (n - tail[x]) % period[x];
            }
            int at = x;
            for (int i = 0; i < steps && isInside(at); i++) {
                at = next[at];
            }
            return at;
        }
    }

    /** What is told of one MAP's ways and RINGS: of the MAP surveyed last. */
    private static final class Roads {
        final int p;
        final Orbits orbits;
        private final int[] comers;
        private final int[] ringOf;
        private final int[] length;
        private final int[] least;
        private final int[] multiplier;
        private final int[] basin;
        private final int[] byTail;
        private final int[] compared;
        private int rings;
        private Poly surveyed;

        Roads(int p) {
            this.p = p;
            orbits = new Orbits(p);
            comers = new int[p];
            ringOf = new int[p];
            length = new int[p];
            least = new int[p];
            multiplier = new int[p];
            basin = new int[p];
            byTail = new int[p];
            compared = new int[p + 1];
            rings = 0;
            surveyed = null;
        }

        /** A MAP never changes, so one that was surveyed last is not surveyed again. */
        void survey(Poly map) {
            if (map == surveyed) {
                return;
            }
            surveyed = map;
            for (int x = 0; x < p; x++) {
                orbits.next[x] = map.valueAt(x);
            }
            countComers();
            orbits.followAll();
            numberRings(map);
            gatherBasins();
        }

        private void countComers() {
            Arrays.fill(comers, 0);
            for (int to : orbits.next) {
                if (orbits.isInside(to)) {
                    comers[to]++;
                }
            }
        }

        private void numberRings(Poly map) {
            rings = 0;
            Arrays.fill(ringOf, NONE);
            for (int x = 0; x < p; x++) {
                if (orbits.tail[x] == 0 && ringOf[x] == NONE && rings < p) {
                    goRound(map, x, rings);
                    rings++;
                }
            }
        }

        private void goRound(Poly map, int x, int ring) {
            int product = 1;
            int at = x;
            for (int i = 0; i < orbits.period[x] && orbits.isInside(at); i++) {
                ringOf[at] = ring;
                product = product * map.slopeAt(at) % p;
                at = orbits.next[at];
            }
            length[ring] = orbits.period[x];
            least[ring] = x;
            multiplier[ring] = product;
            basin[ring] = 0;
        }

        private void gatherBasins() {
            for (int x = 0; x < p; x++) {
                int entry = orbits.entry[x];
                int ring = orbits.isInside(entry) ? ringOf[entry] : NONE;
                ringOf[x] = ring;
                if (ring >= 0 && ring < rings) {
                    basin[ring]++;
                }
            }
        }

        int ofPoint(int x, int what) {
            switch (what) {
                case 0:
                    return orbits.tail[x];
                case 1:
                    return orbits.period[x];
                case 2:
                    return ringOf[x];
                default:
                    return comers[x];
            }
        }

        int ofRing(int i, int what) {
            if (i < 0 || i >= rings) {
                return NONE;
            }
            switch (what) {
                case 0:
                    return length[i];
                case 1:
                    return least[i];
                case 2:
                    return multiplier[i];
                default:
                    return basin[i];
            }
        }

        int ofAll(int what) {
            switch (what) {
                case 0:
                    return rings;
                case 1:
                    return pointsOnRings();
                case 2:
                    return longestRing();
                case 3:
                    return longestTail();
                case 4:
                    return pointsWithoutComers();
                default:
                    return stillRings();
            }
        }

        private int pointsOnRings() {
            int points = 0;
            for (int i = 0; i < rings; i++) {
                points += length[i];
            }
            return points;
        }

        private int longestRing() {
            int longest = 0;
            for (int i = 0; i < rings; i++) {
                longest = Math.max(longest, length[i]);
            }
            return longest;
        }

        private int longestTail() {
            int longest = 0;
            for (int x = 0; x < p; x++) {
                longest = Math.max(longest, orbits.tail[x]);
            }
            return longest;
        }

        int pointsWithoutComers() {
            int points = 0;
            for (int x = 0; x < p; x++) {
                points += comers[x] == 0 ? 1 : 0;
            }
            return points;
        }

        private int stillRings() {
            int still = 0;
            for (int i = 0; i < rings; i++) {
                still += multiplier[i] == 0 ? 1 : 0;
            }
            return still;
        }

        /** Both have p points, so those of the periods here leave none for a period elsewhere. */
        boolean isLike(Orbits other) {
            Arrays.fill(compared, 0);
            for (int period : orbits.period) {
                if (period > 0 && period < compared.length && compared[period] == 0) {
                    compared[period] = 1;
                    if (!hasTailsOf(other, period)) {
                        return false;
                    }
                }
            }
            return true;
        }

        private boolean hasTailsOf(Orbits other, int period) {
            Arrays.fill(byTail, 0);
            tally(orbits, period, 1);
            tally(other, period, -1);
            for (int difference : byTail) {
                if (difference != 0) {
                    return false;
                }
            }
            return true;
        }

        private void tally(Orbits of, int period, int by) {
            for (int x = 0; x < of.size; x++) {
                int tail = of.tail[x];
                if (of.period[x] == period && tail >= 0 && tail < byTail.length) {
                    byTail[tail] += by;
                }
            }
        }
    }

    /** The ROUND POLYNOMIALS of one MAP, of the periods 1 .. known. */
    private static final class Rounds {
        private final int p;
        private final int[][] done;
        private final int[] doneDegree;
        private final int[][] rows;
        private final int[] rowDegree;
        private Poly map;
        private int known;

        Rounds(int p) {
            this.p = p;
            done = new int[LONGEST_PERIOD + 1][HIGHEST_POWER + 1];
            doneDegree = new int[LONGEST_PERIOD + 1];
            rows = new int[LONGEST_PERIOD + 1][HIGHEST_POWER + 1];
            rowDegree = new int[LONGEST_PERIOD + 1];
            done[0][1] = 1;
            doneDegree[0] = 1;
            map = null;
            known = 0;
        }

        static int power(int base, int n) {
            int power = 1;
            for (int i = 0; i < n; i++) {
                power *= base;
            }
            return power;
        }

        int degreeOf(int n) {
            return rowDegree[n];
        }

        int numberOf(int n, int k) {
            return k >= 0 && k <= rowDegree[n] ? rows[n][k] : 0;
        }

        /** For a MAP and n whose power of the degree has its place in a row. */
        void prepare(Poly of, int n) {
            if (map != of) {
                map = of;
                known = 0;
            }
            for (int m = known + 1; m <= n && m <= LONGEST_PERIOD; m++) {
                map.putOver(done[m - 1], doneDegree[m - 1], done[m]);
                doneDegree[m] = doneDegree[m - 1] * map.degree;
                divideOut(m);
                known = m;
            }
        }

        private void divideOut(int m) {
            int[] row = rows[m];
            System.arraycopy(done[m], 0, row, 0, row.length);
            row[1] = Math.floorMod(row[1] - 1, p);
            rowDegree[m] = doneDegree[m];
            for (int by = 1; by < m; by++) {
                if (m % by == 0) {
                    divide(row, rowDegree[m], rows[by], rowDegree[by]);
                    rowDegree[m] -= rowDegree[by];
                }
            }
        }

        /** Nothing is left over here; what comes out is gathered in the places it frees. */
        private void divide(int[] row, int degree, int[] by, int byDegree) {
            int byFirst = inverse(by[byDegree], p);
            for (int k = degree; k >= byDegree; k--) {
                int times = row[k] * byFirst % p;
                for (int i = 0; i < byDegree; i++) {
                    int at = k - byDegree + i;
                    row[at] = Math.floorMod(row[at] - times * by[i], p);
                }
                row[k] = times;
            }
            for (int k = 0; k < row.length; k++) {
                row[k] = k + byDegree <= degree ? row[k + byDegree] : 0;
            }
        }
    }

    /**
     * The fractions that RETURN, for one a and d. A fraction n by d with n n above d |n| + |a|
     * goes farther out with each step; within the limits of a and d that is each |n| above 116.
     */
    private static final class Fractions {
        private static final int REACH = 116;
        private static final int OUTSIDE = -1;

        private final Orbits orbits;
        private final int[] list;
        int listed;
        private int upper;
        private int lower;

        Fractions() {
            orbits = new Orbits(2 * REACH + 1);
            list = new int[2 * REACH + 1];
            listed = 0;
            upper = 0;
            lower = 0;
        }

        /** The same a and d as the last time are not looked through again. */
        void prepare(int a, int d) {
            if (upper == a && lower == d) {
                return;
            }
            upper = a;
            lower = d;
            for (int x = 0; x < orbits.size; x++) {
                orbits.next[x] = follower(x - REACH);
            }
            orbits.followAll();
            listed = 0;
            for (int x = 0; x < orbits.size && listed < list.length; x++) {
                if (orbits.period[x] != Orbits.GONE) {
                    list[listed] = x;
                    listed++;
                }
            }
        }

        private int follower(int n) {
            if (commonDivisor(n, lower) != 1) {
                return OUTSIDE;
            }
            int to = image(upper, lower, n);
            return to >= -REACH && to <= REACH ? to + REACH : OUTSIDE;
        }

        int ofListed(int i, int what) {
            if (i < 0 || i >= listed) {
                return NONE;
            }
            int x = list[i];
            switch (what) {
                case 0:
                    return x - REACH;
                case 1:
                    return orbits.tail[x];
                default:
                    return orbits.period[x];
            }
        }

        /** q(n by d) as what by d; NONE, if in lowest terms it has another lower number. */
        static int image(int a, int d, int n) {
            int above = n * n + a;
            if (d <= 0 || above % d != 0) {
                return NONE;
            }
            int to = above / d;
            return commonDivisor(to, d) == 1 ? to : NONE;
        }
    }
}
