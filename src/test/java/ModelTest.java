import java.math.BigInteger;
import java.util.ArrayList;
import java.util.Arrays;
import java.util.HashMap;
import java.util.List;
import java.util.Map;
import java.util.Random;
import java.util.TreeMap;

/** Runs of calls, the same each time, on the class and on a naive model of the document. */
public final class ModelTest {
    private static final int RUNS = 600;
    private static final int CALLS = 512;
    private static final int NONE = -1000000;
    private static final int BAD = -1000001;
    private static final int FULL = -1000003;
    private static final int[] PRIMES = {3, 3, 5, 7, 11, 13, 29, 61, 101, 197, 199};

    /** The document once more, by the plainest means, with all of the Java library. */
    private static final class Model {
        final int p;
        final Map<Integer, long[]> sheets = new HashMap<>();
        final Map<Integer, Integer> lanes = new HashMap<>();
        final Map<Integer, List<Integer>> shelf = new HashMap<>();
        final List<Integer> trace = new ArrayList<>();
        int status = 0;

        Model(int p) {
            boolean prime = p >= 3 && p <= 199 && BigInteger.valueOf(p).isProbablePrime(30);
            this.p = prime ? p : 101;
        }

        int find(int number) {
            status = number;
            return -1000010 - number;
        }

        int good(int answer) {
            status = 0;
            return answer;
        }

        static boolean in(int n, int least, int most) {
            return least <= n && n <= most;
        }

        int sheet(int sheet, int lane, int n) {
            if (!in(sheet, 0, 7) || !in(lane, 0, 2) || n > 40) return BAD;
            if (n < 0) return find(4);
            sheets.put(sheet, new long[n]);
            lanes.put(sheet, lane);
            return good(n);
        }

        long set(int sheet, int i, long v) {
            if (!in(sheet, 0, 7)) return BAD;
            if (!sheets.containsKey(sheet)) return find(1);
            if (!in(i, 0, sheets.get(sheet).length - 1)) return find(2);
            int bits = lanes.get(sheet) == 0 ? 8 : lanes.get(sheet) == 1 ? 32 : 64;
            long cut = BigInteger.valueOf(v).mod(BigInteger.ONE.shiftLeft(bits)).longValue();
            if (bits < 64 && cut >= 1L << (bits - 1)) cut -= 1L << bits;
            sheets.get(sheet)[i] = cut;
            status = 0;
            return cut;
        }

        boolean have(int sheet, int i, int n) {
            BigInteger end = BigInteger.valueOf(i).add(BigInteger.valueOf(n));
            return i >= 0 && n >= 0 && end.compareTo(BigInteger.valueOf(sheets.get(sheet).length)) <= 0;
        }

        int copy(int a, int i, int b, int j, int n) {
            if (!in(a, 0, 7) || !in(b, 0, 7)) return BAD;
            if (!sheets.containsKey(a) || !sheets.containsKey(b)) return find(1);
            if (!lanes.get(a).equals(lanes.get(b))) return find(5);
            if (!have(a, i, n) || !have(b, j, n)) return find(2);
            long[] ahead = sheets.get(a).clone();
            for (int k = 0; k < n; k++) sheets.get(b)[j + k] = ahead[i + k];
            return good(n);
        }

        int drop(int sheet) {
            if (!in(sheet, 0, 7)) return BAD;
            if (!sheets.containsKey(sheet)) return find(1);
            return good(sheets.remove(sheet).length);
        }

        List<Integer> poly(long... c) {
            List<Integer> f = new ArrayList<>();
            for (long one : c) f.add((int) Math.floorMod(one, (long) p));
            return trim(f);
        }

        static List<Integer> trim(List<Integer> f) {
            while (!f.isEmpty() && f.get(f.size() - 1) == 0) f.remove(f.size() - 1);
            return f;
        }

        static int degree(List<Integer> f) {
            return Math.max(0, f.size() - 1);
        }

        static int at(List<Integer> f, int k) {
            return k < f.size() ? f.get(k) : 0;
        }

        List<Integer> plus(List<Integer> f, List<Integer> g, int times) {
            List<Integer> sum = new ArrayList<>();
            for (int k = 0; k < Math.max(f.size(), g.size()); k++) sum.add(Math.floorMod(at(f, k) + times * at(g, k), p));
            return trim(sum);
        }

        List<Integer> by(List<Integer> f, List<Integer> g) {
            long[] product = new long[f.size() + g.size() + 1];
            for (int i = 0; i < f.size(); i++) for (int j = 0; j < g.size(); j++) product[i + j] += f.get(i) * g.get(j);
            return poly(product);
        }

        /** By powers of g, not by Horner's rule. */
        List<Integer> of(List<Integer> f, List<Integer> g) {
            List<Integer> sum = poly();
            List<Integer> power = poly(1);
            for (int k = 0; k < f.size(); k++) {
                sum = plus(sum, power, f.get(k));
                power = by(power, g);
            }
            return sum;
        }

        int inverse(int v) {
            return BigInteger.valueOf(v).modInverse(BigInteger.valueOf(p)).intValue();
        }

        int told(List<Integer> f) {
            int degree = degree(f);
            if (degree == 2) return at(f, 2) == 1 && at(f, 1) == 0 ? 4 : 3;
            return degree == 0 ? 1 : degree == 1 ? 2 : 5;
        }

        int put(int place, List<Integer> f) {
            shelf.put(place, f);
            return good(told(f));
        }

        int map(int place, int sheet, int i, int n) {
            if (!in(place, 0, 9) || !in(sheet, 0, 7) || !in(n, 1, 5)) return BAD;
            if (!sheets.containsKey(sheet)) return find(1);
            if (!have(sheet, i, n)) return find(2);
            return put(place, poly(Arrays.copyOfRange(sheets.get(sheet), i, i + n)));
        }

        int plain(int place, int c) {
            return in(place, 0, 9) ? put(place, poly(c, 0, 1)) : BAD;
        }

        int turn(int to, int place, int u, int v) {
            if (!in(to, 0, 9) || !in(place, 0, 9) || Math.floorMod(u, p) == 0) return BAD;
            if (!shelf.containsKey(place)) return find(1);
            List<Integer> f = plus(of(shelf.get(place), poly(v, u)), poly(v), -1);
            return put(to, by(f, poly(inverse(Math.floorMod(u, p)))));
        }

        int behind(int to, int a, int b) {
            if (!in(to, 0, 9) || !in(a, 0, 9) || !in(b, 0, 9)) return BAD;
            if (!shelf.containsKey(a) || !shelf.containsKey(b)) return find(1);
            List<Integer> f = of(shelf.get(a), shelf.get(b));
            return degree(f) > 4 ? FULL : put(to, f);
        }

        int clear(int place) {
            if (!in(place, 0, 9)) return BAD;
            return shelf.remove(place) == null ? 0 : 1;
        }

        int number(int place, int k) {
            if (!in(place, 0, 9) || !in(k, -1, 4)) return BAD;
            if (!shelf.containsKey(place)) return find(1);
            return good(k == -1 ? degree(shelf.get(place)) : at(shelf.get(place), k));
        }

        int kind(int place) {
            if (!in(place, 0, 9)) return BAD;
            return shelf.containsKey(place) ? good(told(shelf.get(place))) : find(1);
        }

        boolean fits(int place, int kind) {
            int told = told(shelf.get(place));
            return kind == 0 || told == kind || told == 4 && kind == 3;
        }

        int is(int place, int kind) {
            if (!in(place, 0, 9) || !in(kind, 0, 5)) return BAD;
            return shelf.containsKey(place) && fits(place, kind) ? 1 : 0;
        }

        int as(int place, int kind) {
            if (!in(place, 0, 9) || !in(kind, 0, 5)) return BAD;
            if (!shelf.containsKey(place)) return find(1);
            return fits(place, kind) ? good(degree(shelf.get(place))) : find(3);
        }

        int ask(int place, int what) {
            if (!in(place, 0, 9) || !in(what, 0, 1)) return BAD;
            trace.clear();
            if (!shelf.containsKey(place)) return find(1);
            List<Integer> f = shelf.get(place);
            return good(what == 0 ? size(f, told(f)) : mark(f, told(f)));
        }

        int size(List<Integer> f, int kind) {
            int body = kind == 2 ? 11 : kind == 3 ? 12 : kind == 4 ? 13 : 10;
            trace.add(body);
            if (body == 11) return p;
            if (body == 12) return 2 * size(f, 0);
            if (body == 13) return size(f, 3) + mark(f, told(f));
            boolean[] value = new boolean[p];
            int values = 0;
            for (int x = 0; x < p; x++) {
                values += value[value(f, x)] ? 0 : 1;
                value[value(f, x)] = true;
            }
            return values;
        }

        int mark(List<Integer> f, int kind) {
            int body = kind == 3 ? 21 : kind == 4 ? 22 : kind == 5 ? 23 : 20;
            trace.add(body);
            if (body == 21) return mark(f, 0) + p;
            if (body == 22) return mark(f, 3) + way(f, 0)[1];
            if (body == 23) return mark(f, 0) + size(f, told(f));
            return at(f, 0);
        }

        int trace(int i) {
            return in(i, 0, Math.min(16, trace.size()) - 1) ? trace.get(i) : NONE;
        }

        int value(List<Integer> f, int x) {
            BigInteger sum = BigInteger.ZERO;
            for (int k = 0; k < f.size(); k++) sum = sum.add(BigInteger.valueOf(x).pow(k).multiply(BigInteger.valueOf(f.get(k))));
            return sum.mod(BigInteger.valueOf(p)).intValue();
        }

        final Map<List<Integer>, int[]> tables = new HashMap<>();

        int[] table(List<Integer> f) {
            if (!tables.containsKey(f)) {
                int[] table = new int[p];
                for (int x = 0; x < p; x++) table[x] = value(f, x);
                tables.put(f, table);
            }
            return tables.get(f);
        }

        /** TAIL, PERIOD, and the least POINT of the RING. */
        int[] way(List<Integer> f, int x) {
            List<Integer> way = new ArrayList<>();
            int at = x;
            while (!way.contains(at)) {
                way.add(at);
                at = table(f)[at];
            }
            int tail = way.indexOf(at);
            int least = at;
            for (int point : way.subList(tail, way.size())) least = Math.min(least, point);
            return new int[] {tail, way.size() - tail, least};
        }

        /** By its least POINT: how many POINTS, MULTIPLIER, how many come to it. */
        TreeMap<Integer, int[]> rings(List<Integer> f) {
            TreeMap<Integer, int[]> rings = new TreeMap<>();
            for (int x = 0; x < p; x++) {
                int[] way = way(f, x);
                int[] ring = rings.computeIfAbsent(way[2], least -> new int[] {0, 1, 0});
                ring[2]++;
                if (way[0] == 0) {
                    ring[0]++;
                    BigInteger slope = BigInteger.ZERO;
                    for (int k = 1; k < f.size(); k++) {
                        slope = slope.add(BigInteger.valueOf((long) k * f.get(k)).multiply(BigInteger.valueOf(x).pow(k - 1)));
                    }
                    ring[1] = ring[1] * slope.mod(BigInteger.valueOf(p)).intValue() % p;
                }
            }
            return rings;
        }

        final Map<List<Integer>, TreeMap<Integer, int[]>> known = new HashMap<>();

        TreeMap<Integer, int[]> ringsOf(List<Integer> f) {
            if (!known.containsKey(f)) known.put(f, rings(f));
            return known.get(f);
        }

        int step(int place, int x, int n) {
            if (!in(place, 0, 9) || !in(x, 0, p - 1) || !in(n, 0, 1000000000)) return BAD;
            if (!shelf.containsKey(place)) return find(1);
            int[] jump = table(shelf.get(place)).clone();
            int at = x;
            for (int left = n; left > 0; left /= 2) {
                if (left % 2 == 1) at = jump[at];
                int[] twice = new int[p];
                for (int k = 0; k < p; k++) twice[k] = jump[jump[k]];
                jump = twice;
            }
            return good(at);
        }

        int way(int place, int x, int what) {
            if (!in(place, 0, 9) || !in(x, 0, p - 1) || !in(what, 0, 3)) return BAD;
            if (!shelf.containsKey(place)) return find(1);
            List<Integer> f = shelf.get(place);
            if (what < 2) return good(way(f, x)[what]);
            if (what == 2) return good(ringsOf(f).headMap(way(f, x)[2]).size());
            int comers = 0;
            for (int value : table(f)) comers += value == x ? 1 : 0;
            return good(comers);
        }

        int ring(int place, int i, int what) {
            if (!in(place, 0, 9) || !in(what, 0, 3)) return BAD;
            if (!shelf.containsKey(place)) return find(1);
            TreeMap<Integer, int[]> rings = ringsOf(shelf.get(place));
            if (!in(i, 0, rings.size() - 1)) return good(NONE);
            int least = new ArrayList<>(rings.keySet()).get(i);
            int[] ring = rings.get(least);
            return good(what == 0 ? ring[0] : what == 1 ? least : what == 2 ? ring[1] : ring[2]);
        }

        int all(int place, int what) {
            if (!in(place, 0, 9) || !in(what, 0, 5)) return BAD;
            if (!shelf.containsKey(place)) return find(1);
            List<Integer> f = shelf.get(place);
            int[] answers = {ringsOf(f).size(), 0, 0, 0, p, 0};
            for (int x = 0; x < p; x++) {
                int[] way = way(f, x);
                answers[1] += way[0] == 0 ? 1 : 0;
                answers[2] = Math.max(answers[2], way[1]);
                answers[3] = Math.max(answers[3], way[0]);
            }
            answers[4] = p - (int) Arrays.stream(table(f)).distinct().count();
            for (int[] ring : ringsOf(f).values()) answers[5] += ring[1] == 0 ? 1 : 0;
            return good(answers[what]);
        }

        int alike(int a, int b) {
            if (!in(a, 0, 9) || !in(b, 0, 9)) return BAD;
            if (!shelf.containsKey(a) || !shelf.containsKey(b)) return find(1);
            List<Integer> one = new ArrayList<>();
            List<Integer> other = new ArrayList<>();
            for (int x = 0; x < p; x++) {
                int[] first = way(shelf.get(a), x);
                int[] second = way(shelf.get(b), x);
                one.add(first[0] * 1000 + first[1]);
                other.add(second[0] * 1000 + second[1]);
            }
            one.sort(null);
            other.sort(null);
            return good(one.equals(other) ? 1 : 0);
        }

        /** By the document's words: what is left of f done n times, less x, by all R(m) of lower m. */
        List<Integer> round(List<Integer> f, int n) {
            List<Integer> done = poly(0, 1);
            for (int i = 0; i < n; i++) done = of(f, done);
            List<Integer> left = plus(done, poly(0, 1), -1);
            List<Integer> others = poly(1);
            for (int m = 1; m < n; m++) if (n % m == 0) others = by(others, round(f, m));
            List<Integer> quotient = poly();
            while (!left.isEmpty()) {
                long[] term = new long[left.size() - others.size() + 1];
                term[term.length - 1] = left.get(left.size() - 1) * inverse(others.get(others.size() - 1));
                quotient = plus(quotient, poly(term), 1);
                left = plus(left, by(others, poly(term)), -1);
            }
            return quotient;
        }

        int round(int place, int n, int k) {
            if (!in(place, 0, 9) || !in(n, 1, 6) || k < -1) return BAD;
            if (!shelf.containsKey(place)) return find(1);
            List<Integer> f = shelf.get(place);
            if (degree(f) < 2) return find(3);
            if (Math.pow(degree(f), n) > 64) return FULL;
            return good(k == -1 ? degree(round(f, n)) : at(round(f, n), k));
        }

        static boolean pair(int a, int d) {
            return in(a, -10000, 10000) && in(d, 1, 30)
                && BigInteger.valueOf(a).gcd(BigInteger.valueOf(d)).equals(BigInteger.ONE);
        }

        /** The upper and lower number of x x + a by (d d), in lowest terms. */
        static List<BigInteger> q(int a, int d, List<BigInteger> x) {
            BigInteger square = x.get(1).multiply(x.get(1));
            BigInteger dd = BigInteger.valueOf((long) d * d);
            BigInteger upper = x.get(0).multiply(x.get(0)).multiply(dd).add(square.multiply(BigInteger.valueOf(a)));
            return lowest(upper, square.multiply(dd));
        }

        static List<BigInteger> lowest(BigInteger upper, BigInteger lower) {
            BigInteger both = upper.gcd(lower);
            return List.of(upper.divide(both), lower.divide(both));
        }

        static List<int[]> fractions(int a, int d) {
            List<int[]> all = new ArrayList<>();
            for (int n = -300; n <= 300; n++) {
                List<List<BigInteger>> way = new ArrayList<>();
                List<BigInteger> at = lowest(BigInteger.valueOf(n), BigInteger.valueOf(d));
                if (at.get(1).intValue() != d) continue;
                while (!way.contains(at) && at.get(1).bitLength() < 100
                        && at.get(0).abs().compareTo(at.get(1).multiply(BigInteger.valueOf(20000))) <= 0) {
                    way.add(at);
                    at = q(a, d, at);
                }
                int tail = way.indexOf(at);
                if (tail >= 0) all.add(new int[] {n, tail, way.size() - tail});
            }
            return all;
        }

        int fraction(int a, int d, int i, int what) {
            if (!pair(a, d) || !in(what, 0, 2)) return BAD;
            List<int[]> all = fractions(a, d);
            return i == NONE ? all.size() : in(i, 0, all.size() - 1) ? all.get(i)[what] : NONE;
        }

        int next(int a, int d, int n) {
            if (!pair(a, d) || !in(n, -1000, 1000)) return BAD;
            List<BigInteger> x = lowest(BigInteger.valueOf(n), BigInteger.valueOf(d));
            if (x.get(1).intValue() != d) return BAD;
            List<BigInteger> to = q(a, d, x);
            return to.get(1).equals(BigInteger.valueOf(d)) ? to.get(0).intValueExact() : NONE;
        }

        int count(int what) {
            if (!in(what, 0, 7)) return BAD;
            if (what == 0) return sheets.size();
            if (what == 1) return shelf.size();
            if (what == 7) return p;
            int there = 0;
            for (int place : shelf.keySet()) there += fits(place, what - 1) ? 1 : 0;
            return there;
        }
    }

    private static Random random;

    private static int one(int... of) {
        return of[random.nextInt(of.length)];
    }

    /** Mostly within, at times at the edges, seldom far off. */
    private static int near(int least, int most) {
        int how = random.nextInt(40);
        if (how == 0) return one(Integer.MIN_VALUE, Integer.MAX_VALUE, NONE, 1000000);
        if (how == 1) return least - 1;
        if (how == 2) return most + 1;
        if (how < 6) return one(least, most);
        return least + random.nextInt(most - least + 1);
    }

    private static int place() {
        return near(0, one(2, 9));
    }

    private static int sheet() {
        return near(0, one(2, 7));
    }

    private static long number() {
        return one(0, 1, 2) == 0 ? random.nextLong() : one(0, 1, 2) == 0 ? 0 : one(0, 0, 1, -1, 2, random.nextInt(300));
    }

    private static int wrong = 0;
    private static int calls = 0;
    private static int run = 0;

    private static void same(String call, long got, long want) {
        calls++;
        if (got != want) {
            wrong++;
            if (wrong < 50) System.out.println("run " + run + ": " + call + " answered " + got + ", due is " + want);
        }
    }

    private static int lastA = 0;
    private static int lastD = 1;

    private static void pair() {
        if (random.nextInt(3) == 0) return;
        lastD = near(1, one(1, 4, 12, 30));
        if (random.nextBoolean()) {
            int n = random.nextInt(120);
            lastA = lastD * n - n * n;
        } else {
            lastA = near(-one(30, 1000, 10000), one(30, 10000));
        }
    }

    private static void callSheets(ReturnPoints x, Model m) {
        int a = sheet(), b = sheet(), i = near(0, 6), j = near(0, 6), n = near(0, 5), lane = near(0, one(0, 2, 2));
        long v = number();
        int size = near(0, one(3, 8, 40));
        switch (random.nextInt(8)) {
            case 0: case 1: same("sheet " + a + " " + lane + " " + size, x.sheet(a, lane, size), m.sheet(a, lane, size)); break;
            case 2: same("copy " + a + " " + i + " " + b + " " + j + " " + n, x.copy(a, i, b, j, n), m.copy(a, i, b, j, n)); break;
            case 3: if (random.nextInt(3) == 0) same("drop " + a, x.drop(a), m.drop(a)); break;
            default: same("set " + a + " " + i + " " + v, x.set(a, i, v), m.set(a, i, v));
        }
    }

    private static void callMaps(ReturnPoints x, Model m) {
        int to = place(), a = place(), b = place(), s = sheet(), i = near(0, 6), n = near(1, 5), u = one(near(-300, 300), near(0, 4)), v = near(-300, 300);
        switch (random.nextInt(9)) {
            case 0: case 1: case 2: same("map " + to + " " + s + " " + i + " " + n, x.map(to, s, i, n), m.map(to, s, i, n)); break;
            case 3: same("plain " + to + " " + v, x.plain(to, v), m.plain(to, v)); break;
            case 4: case 5: same("turn " + to + " " + a + " " + u + " " + v, x.turn(to, a, u, v), m.turn(to, a, u, v)); break;
            case 6: case 7: same("behind " + to + " " + a + " " + b, x.behind(to, a, b), m.behind(to, a, b)); break;
            default: same("clear " + to, x.clear(to), m.clear(to));
        }
    }

    private static void callAsked(ReturnPoints x, Model m) {
        int a = place(), k = near(-1, 4), kind = near(0, 5), what = near(0, 1), i = near(0, 6);
        switch (random.nextInt(6)) {
            case 0: same("number " + a + " " + k, x.number(a, k), m.number(a, k)); break;
            case 1: same("kind " + a, x.kind(a), m.kind(a)); break;
            case 2: same("is " + a + " " + kind, x.is(a, kind), m.is(a, kind)); break;
            case 3: same("as " + a + " " + kind, x.as(a, kind), m.as(a, kind)); break;
            case 4: same("ask " + a + " " + what, x.ask(a, what), m.ask(a, what)); break;
            default: same("trace " + i, x.trace(i), m.trace(i));
        }
    }

    private static void callWays(ReturnPoints x, Model m) {
        int a = place(), b = place(), at = near(0, m.p - 1), what = near(0, 3), all = near(0, 5), i = near(0, 6);
        int n = near(0, one(5, 300, 1000000000)), period = near(1, one(3, 6)), k = near(-1, one(6, 64));
        switch (random.nextInt(6)) {
            case 0: same("step " + a + " " + at + " " + n, x.step(a, at, n), m.step(a, at, n)); break;
            case 1: same("way " + a + " " + at + " " + what, x.way(a, at, what), m.way(a, at, what)); break;
            case 2: same("ring " + a + " " + i + " " + what, x.ring(a, i, what), m.ring(a, i, what)); break;
            case 3: same("all " + a + " " + all, x.all(a, all), m.all(a, all)); break;
            case 4: same("alike " + a + " " + b, x.alike(a, b), m.alike(a, b)); break;
            default: same("round " + a + " " + period + " " + k, x.round(a, period, k), m.round(a, period, k));
        }
    }

    private static void callFractions(ReturnPoints x, Model m) {
        pair();
        int a = lastA, d = lastD, i = one(NONE, near(0, 8)), what = near(0, 2), n = near(-1000, 1000), c = near(0, 7);
        switch (random.nextInt(8)) {
            case 0: same("fraction " + a + " " + d + " " + i + " " + what, x.fraction(a, d, i, what), m.fraction(a, d, i, what)); break;
            case 1: case 2: same("next " + a + " " + d + " " + n, x.next(a, d, n), m.next(a, d, n)); break;
            default: same("count " + c, x.count(c), m.count(c));
        }
    }

    private static void oneRun() {
        random = new Random(run);
        int p = random.nextInt(10) == 0 ? near(-5, 230) : one(PRIMES);
        ReturnPoints x = new ReturnPoints(p);
        Model m = new Model(p);
        for (int call = 0; call < CALLS / 2; call++) {
            switch (random.nextInt(6)) {
                case 0: callSheets(x, m); break;
                case 1: case 2: callMaps(x, m); break;
                case 3: callAsked(x, m); break;
                case 4: callWays(x, m); break;
                default: if (random.nextInt(4) == 0) callFractions(x, m); else callWays(x, m);
            }
            same("status", x.status(), m.status);
        }
    }

    public static void main(String[] args) {
        int runs = args.length == 1 ? Integer.parseInt(args[0]) : RUNS;
        for (run = 1; run <= runs; run++) oneRun();
        System.out.println(wrong == 0 ? calls + " answers are as the model's" : wrong + " of " + calls + " answers are not the model's");
        if (wrong != 0) System.exit(1);
    }
}
