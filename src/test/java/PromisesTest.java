import java.util.Arrays;

/** A part for each promise: ordinary calls, the edges, each refusal, each finding and its status. */
public final class PromisesTest {
    private static final int NONE = ReturnPoints.NONE;
    private static final int BAD = ReturnPoints.BAD;
    private static final int FULL = ReturnPoints.FULL;
    private static final int NULL = -1000011;
    private static final int PLACE = -1000012;
    private static final int KIND = -1000013;
    private static final int SIZE = -1000014;
    private static final int STORE = -1000015;
    private static final int LEAST = Integer.MIN_VALUE;
    private static final int MOST = Integer.MAX_VALUE;

    private static int wrong = 0;
    private static String part = "";

    private static void due(String call, long got, long want) {
        if (got != want) {
            wrong++;
            System.out.println(part + ": " + call + " answered " + got + ", due is " + want);
        }
    }

    /** The answer of a call, and what status() answers behind it. */
    private static void due(String call, ReturnPoints x, long got, long want, int status) {
        due(call, got, want);
        due("status() behind " + call, x.status(), status);
    }

    /** A finding, so that a status left as it was is told from one set to 0. */
    private static void find(ReturnPoints x, int empty) {
        due("kind of an empty place", x.kind(empty), NULL);
        due("status()", x.status(), 1);
    }

    /** The same on an object that may have no empty place. */
    private static void find(ReturnPoints x) {
        due("fewer than none", x, x.sheet(0, 0, -1), SIZE, 4);
    }

    private static int map(ReturnPoints x, int place, long... c) {
        x.sheet(7, 2, c.length);
        for (int i = 0; i < c.length; i++) {
            x.set(7, i, c[i]);
        }
        int told = x.map(place, 7, 0, c.length);
        x.drop(7);
        return told;
    }

    private static void dueNumbers(ReturnPoints x, int place, int... want) {
        int[] got = new int[5];
        for (int k = 0; k < 5; k++) {
            got[k] = x.number(place, k);
        }
        if (!Arrays.equals(got, Arrays.copyOf(want, 5))) {
            wrong++;
            System.out.println(part + ": numbers of " + place + " are " + Arrays.toString(got)
                + ", due are " + Arrays.toString(want));
        }
    }

    private static void dueTrace(ReturnPoints x, int... want) {
        for (int i = 0; i < want.length; i++) {
            due("trace(" + i + ")", x.trace(i), want[i]);
        }
        due("trace(" + want.length + ")", x.trace(want.length), NONE);
        due("trace(15)", x.trace(15), NONE);
        due("trace(16)", x.trace(16), NONE);
    }

    private static void newObject() {
        int[] primes = {3, 5, 7, 97, 101, 103, 197, 199};
        for (int p : primes) {
            due("p of " + p, new ReturnPoints(p).count(7), p);
        }
        int[] others = {LEAST, -7, -3, 0, 1, 2, 4, 9, 25, 49, 121, 169, 187, 189, 198, 200, 211, MOST};
        for (int p : others) {
            due("p of " + p, new ReturnPoints(p).count(7), 101);
        }
        ReturnPoints x = new ReturnPoints(13);
        for (int what = 0; what < 7; what++) {
            due("count " + what, x.count(what), 0);
        }
        due("status", x.status(), 0);
        due("trace", x.trace(0), NONE);
    }

    private static void sheet() {
        ReturnPoints x = new ReturnPoints(7);
        due("0 items", x, x.sheet(0, 0, 0), 0, 0);
        due("40 items", x, x.sheet(7, 2, 40), 40, 0);
        due("last item", x.set(7, 39, 5), 5);
        due("beyond", x.set(7, 40, 5), PLACE);
        find(x);
        due("in place of it", x, x.sheet(7, 2, 40), 40, 0);
        due("is 0 at first", map(x, 0, 3), 1);
        due("sheet 1 of ints", x.sheet(1, 1, 1), 1);
        due("other lane in place", x.sheet(1, 0, 2), 2);
        due("its lane", x.set(1, 1, 128), -128);
        due("items are 0", x.map(3, 1, 0, 1), 1);
        dueNumbers(x, 3, 0);
        due("how many", x.count(0), 2);
        due("fewer than none", x, x.sheet(2, 0, -1), SIZE, 4);
        due("none at all", x, x.sheet(1, 0, LEAST), SIZE, 4);
        due("found, not made", x.count(0), 2);
        due("it stays", x.set(1, 1, 3), 3);
        find(x, 9);
        due("sheet -1", x, x.sheet(-1, 0, 1), BAD, 1);
        due("sheet 8", x, x.sheet(8, 0, 1), BAD, 1);
        due("lane -1", x, x.sheet(0, -1, 1), BAD, 1);
        due("lane 3", x, x.sheet(0, 3, 1), BAD, 1);
        due("41 items", x, x.sheet(0, 0, 41), BAD, 1);
        due("too many", x, x.sheet(0, 0, MOST), BAD, 1);
        due("bad ahead of size", x, x.sheet(8, 0, -1), BAD, 1);
        due("bad lane ahead of size", x, x.sheet(0, 3, -1), BAD, 1);
    }

    private static void set() {
        ReturnPoints x = new ReturnPoints(7);
        due("missing", x, x.set(0, 0, 1), NULL, 1);
        x.sheet(0, 0, 3);
        x.sheet(1, 1, 3);
        x.sheet(2, 2, 3);
        find(x);
        due("byte", x, x.set(0, 0, 127), 127, 0);
        due("byte 128", x.set(0, 0, 128), -128);
        due("byte 255", x.set(0, 1, 255), -1);
        due("byte 256", x.set(0, 2, 256), 0);
        due("byte -129", x.set(0, 2, -129), 127);
        due("int", x.set(1, 0, 2147483647L), 2147483647L);
        due("int beyond", x.set(1, 0, 2147483648L), -2147483648L);
        due("int 2 to 32", x.set(1, 0, 4294967297L), 1);
        due("long", x.set(2, 0, Long.MAX_VALUE), Long.MAX_VALUE);
        due("long least", x.set(2, 2, Long.MIN_VALUE), Long.MIN_VALUE);
        due("place 3", x, x.set(0, 3, 1), PLACE, 2);
        due("place -1", x, x.set(0, -1, 1), PLACE, 2);
        due("place most", x, x.set(0, MOST, 1), PLACE, 2);
        due("place least", x, x.set(0, LEAST, 1), PLACE, 2);
        due("sheet 8", x, x.set(8, 0, 1), BAD, 2);
        due("sheet -1", x, x.set(-1, 0, 1), BAD, 2);
        due("missing ahead of place", x, x.set(5, -1, 1), NULL, 1);
        due("fine", x, x.set(0, 0, 1), 1, 0);
        x.sheet(3, 2, 0);
        due("no items", x.set(3, 0, 1), PLACE);
    }

    private static void dueItems(ReturnPoints x, int sheet, int from, int... want) {
        for (int i = 0; i < want.length; i++) {
            x.map(9, sheet, from + i, 1);
            due("item " + (from + i) + " of " + sheet, x.number(9, 0), want[i]);
        }
    }

    private static void copy() {
        ReturnPoints x = new ReturnPoints(101);
        x.sheet(0, 1, 5);
        x.sheet(1, 1, 3);
        for (int i = 0; i < 5; i++) {
            x.set(0, i, i + 1);
        }
        find(x);
        due("onto another", x, x.copy(0, 1, 1, 0, 3), 3, 0);
        dueItems(x, 1, 0, 2, 3, 4);
        due("up in itself", x, x.copy(0, 0, 0, 1, 4), 4, 0);
        dueItems(x, 0, 0, 1, 1, 2, 3, 4);
        due("down in itself", x, x.copy(0, 1, 0, 0, 4), 4, 0);
        dueItems(x, 0, 0, 1, 2, 3, 4, 4);
        due("none at the end", x, x.copy(0, 5, 1, 3, 0), 0, 0);
        due("i beyond", x, x.copy(0, 6, 1, 3, 0), PLACE, 2);
        due("j beyond", x, x.copy(0, 5, 1, 4, 0), PLACE, 2);
        due("i below", x, x.copy(0, -1, 1, 0, 1), PLACE, 2);
        due("j below", x, x.copy(0, 0, 1, -1, 1), PLACE, 2);
        due("n below", x, x.copy(0, 1, 1, 1, -1), PLACE, 2);
        due("beyond a's end", x, x.copy(0, 4, 1, 0, 2), PLACE, 2);
        due("beyond b's end", x, x.copy(0, 0, 1, 1, 3), PLACE, 2);
        due("beyond an int", x, x.copy(0, 2, 1, 2, MOST), PLACE, 2);
        due("i most", x, x.copy(0, MOST, 1, 0, 1), PLACE, 2);
        due("j most", x, x.copy(0, 0, 1, MOST, 1), PLACE, 2);
        dueItems(x, 1, 0, 2, 3, 4);
        x.sheet(2, 0, 5);
        due("lanes", x, x.copy(0, 0, 2, 0, 1), STORE, 5);
        due("lanes the other way", x, x.copy(2, 0, 0, 0, 0), STORE, 5);
        due("lanes ahead of place", x, x.copy(0, -1, 2, 0, 1), STORE, 5);
        due("a missing", x, x.copy(3, 0, 0, 0, 1), NULL, 1);
        due("b missing", x, x.copy(0, 0, 3, 0, 1), NULL, 1);
        due("missing ahead of place", x, x.copy(0, -1, 3, 0, -1), NULL, 1);
        due("a 8", x, x.copy(8, 0, 0, 0, 1), BAD, 1);
        due("b 8", x, x.copy(0, 0, 8, 0, 1), BAD, 1);
        due("a -1", x, x.copy(-1, 0, 0, 0, 1), BAD, 1);
        due("b -1", x, x.copy(0, 0, -1, 0, 1), BAD, 1);
        due("bad ahead of missing", x, x.copy(3, 0, 8, 0, 1), BAD, 1);
    }

    private static void drop() {
        ReturnPoints x = new ReturnPoints(7);
        due("missing", x, x.drop(0), NULL, 1);
        x.sheet(0, 1, 9);
        x.sheet(1, 1, 0);
        find(x);
        due("9 items", x, x.drop(0), 9, 0);
        due("no items", x, x.drop(1), 0, 0);
        due("none there", x.count(0), 0);
        due("again", x, x.drop(0), NULL, 1);
        due("8", x, x.drop(8), BAD, 1);
        due("-1", x, x.drop(-1), BAD, 1);
        due("missing from now on", x.set(0, 0, 1), NULL);
        x.sheet(0, 1, 2);
        due("made anew", x, x.drop(0), 2, 0);
    }

    private static void map() {
        ReturnPoints x = new ReturnPoints(7);
        x.sheet(0, 2, 7);
        long[] items = {-1, 8, 7, 14, 6, Long.MIN_VALUE, Long.MAX_VALUE};
        for (int i = 0; i < items.length; i++) {
            x.set(0, i, items[i]);
        }
        find(x);
        due("five", x, x.map(0, 0, 0, 5), 5, 0);
        dueNumbers(x, 0, 6, 1, 0, 0, 6);
        due("four, of degree 1", x, x.map(1, 0, 0, 4), 2, 0);
        due("its degree", x.number(1, -1), 1);
        dueNumbers(x, 1, 6, 1);
        due("0 alone", x, x.map(2, 0, 2, 2), 1, 0);
        due("its degree", x.number(2, -1), 0);
        due("the last ones", x, x.map(3, 0, 5, 2), 1, 0);
        dueNumbers(x, 3, (int) Math.floorMod(Long.MIN_VALUE, 7L), (int) (Long.MAX_VALUE % 7));
        due("one", x.map(3, 0, 6, 1), 1);
        due("in place of it", x.count(1), 4);
        due("square", map(x, 4, 1, 2, 3), 3);
        due("plain", map(x, 4, 1, 7, 8, 0), 4);
        due("degree 3", map(x, 4, 0, 0, 0, 1), 5);
        due("beyond the end", x, x.map(5, 0, 5, 3), PLACE, 2);
        due("i below", x, x.map(5, 0, -1, 1), PLACE, 2);
        due("i most", x, x.map(5, 0, MOST, 5), PLACE, 2);
        due("found, not made", x.is(5, 0), 0);
        due("missing", x, x.map(5, 1, -1, 1), NULL, 1);
        due("place 10", x, x.map(10, 0, 0, 1), BAD, 1);
        due("place -1", x, x.map(-1, 0, 0, 1), BAD, 1);
        due("sheet 8", x, x.map(0, 8, 0, 1), BAD, 1);
        due("sheet -1", x, x.map(0, -1, 0, 1), BAD, 1);
        due("n 0", x, x.map(0, 0, 0, 0), BAD, 1);
        due("n 6", x, x.map(0, 0, 0, 6), BAD, 1);
        due("n 6 ahead of missing", x, x.map(0, 1, 0, 6), BAD, 1);
        dueNumbers(x, 0, 6, 1, 0, 0, 6);
        x.set(0, 0, 3);
        x.drop(0);
        dueNumbers(x, 0, 6, 1, 0, 0, 6);
        ReturnPoints three = new ReturnPoints(3);
        due("degree 4 modulo 3", map(three, 0, 0, 0, 0, 0, 1), 5);
    }

    private static void plain() {
        ReturnPoints x = new ReturnPoints(7);
        find(x);
        due("c 3", x, x.plain(0, 3), 4, 0);
        dueNumbers(x, 0, 3, 0, 1);
        due("c -1", x.plain(0, -1), 4);
        dueNumbers(x, 0, 6, 0, 1);
        due("c least", x.plain(9, LEAST), 4);
        dueNumbers(x, 9, Math.floorMod(LEAST, 7), 0, 1);
        due("c most", x.plain(9, MOST), 4);
        dueNumbers(x, 9, MOST % 7, 0, 1);
        due("how many", x.count(5), 2);
        find(x, 5);
        due("place 10", x, x.plain(10, 1), BAD, 1);
        due("place -1", x, x.plain(-1, 1), BAD, 1);
        due("fine", x, x.plain(5, 0), 4, 0);
    }

    private static void turn() {
        ReturnPoints x = new ReturnPoints(7);
        x.plain(0, 0);
        find(x);
        due("by 3, 5", x, x.turn(1, 0, 3, 5), 3, 0);
        dueNumbers(x, 1, 2, 3, 3);
        due("modulo p", x.turn(2, 0, -4, 12), 3);
        dueNumbers(x, 2, 2, 3, 3);
        due("back", x, x.turn(1, 1, 5, 3), 4, 0);
        dueNumbers(x, 1, 0, 0, 1);
        due("by 1, 0", x.turn(3, 2, 1, 0), 3);
        dueNumbers(x, 3, 2, 3, 3);
        map(x, 4, 5);
        due("flat", x, x.turn(4, 4, 2, 1), 1, 0);
        dueNumbers(x, 4, 2);
        map(x, 4, 1, 2);
        due("straight", x, x.turn(4, 4, 2, 1), 2, 0);
        dueNumbers(x, 4, 1, 2);
        map(x, 4, 0, 0, 0, 0, 1);
        due("high", x, x.turn(4, 4, 1, 1), 5, 0);
        dueNumbers(x, 4, 0, 4, 6, 4, 1);
        due("empty", x, x.turn(5, 6, 1, 1), NULL, 1);
        due("u 0", x, x.turn(5, 0, 0, 1), BAD, 1);
        due("u 0 modulo p", x, x.turn(5, 0, -14, 1), BAD, 1);
        due("u bad ahead of empty", x, x.turn(5, 6, 7, 1), BAD, 1);
        due("to 10", x, x.turn(10, 0, 1, 1), BAD, 1);
        due("to -1", x, x.turn(-1, 0, 1, 1), BAD, 1);
        due("place 10", x, x.turn(5, 10, 1, 1), BAD, 1);
        due("place -1", x, x.turn(5, -1, 1, 1), BAD, 1);
        due("nothing made", x.is(5, 0), 0);
    }

    private static void behind() {
        ReturnPoints x = new ReturnPoints(101);
        x.plain(0, 1);
        x.plain(1, -2);
        find(x);
        due("0 of 1", x, x.behind(2, 0, 1), 5, 0);
        dueNumbers(x, 2, 5, 0, 97, 0, 1);
        due("1 of 0", x, x.behind(3, 1, 0), 5, 0);
        dueNumbers(x, 3, 100, 0, 2, 0, 1);
        map(x, 4, 3, 2);
        due("straight of high", x.behind(5, 4, 2), 5);
        dueNumbers(x, 5, 13, 0, 93, 0, 2);
        due("high of straight", x.behind(5, 2, 4), 5);
        due("square of straight", x.behind(5, 0, 4), 3);
        dueNumbers(x, 5, 10, 12, 4);
        due("onto itself", x.behind(4, 4, 4), 2);
        dueNumbers(x, 4, 9, 4);
        map(x, 6, 7);
        due("flat of high", x, x.behind(7, 6, 2), 1, 0);
        dueNumbers(x, 7, 7);
        due("high of flat", x, x.behind(7, 2, 6), 1, 0);
        dueNumbers(x, 7, (2401 - 4 * 49 + 5) % 101);
        map(x, 8, 0, 0, 0, 1);
        find(x, 9);
        due("3 by 2", x, x.behind(7, 8, 0), FULL, 1);
        due("2 by 3", x, x.behind(7, 0, 8), FULL, 1);
        due("4 by 4", x, x.behind(7, 2, 2), FULL, 1);
        due("3 by 3 by itself", x, x.behind(8, 8, 8), FULL, 1);
        dueNumbers(x, 7, (2401 - 4 * 49 + 5) % 101);
        due("fine", x, x.behind(8, 8, 4), 5, 0);
        due("full keeps 0", x, x.behind(7, 2, 2), FULL, 0);
        due("a empty", x, x.behind(7, 9, 2), NULL, 1);
        due("b empty", x, x.behind(7, 2, 9), NULL, 1);
        due("to 10", x, x.behind(10, 0, 1), BAD, 1);
        due("to -1", x, x.behind(-1, 0, 1), BAD, 1);
        due("a 10", x, x.behind(7, 10, 1), BAD, 1);
        due("a -1", x, x.behind(7, -1, 9), BAD, 1);
        due("b 10", x, x.behind(7, 0, 10), BAD, 1);
        due("b -1", x, x.behind(7, 9, -1), BAD, 1);
    }

    private static void clear() {
        ReturnPoints x = new ReturnPoints(7);
        due("empty", x.clear(0), 0);
        x.plain(0, 1);
        x.plain(9, 1);
        find(x, 5);
        due("had one", x, x.clear(0), 1, 1);
        due("again", x, x.clear(0), 0, 1);
        due("the last", x, x.clear(9), 1, 1);
        due("10", x, x.clear(10), BAD, 1);
        due("-1", x, x.clear(-1), BAD, 1);
        due("empty from now on", x.kind(0), NULL);
        due("none", x.count(1), 0);
        x.plain(0, 1);
        due("status 0 stays", x, x.clear(0), 1, 0);
    }

    private static void number() {
        ReturnPoints x = new ReturnPoints(7);
        map(x, 0, 3, 2, 1, 6, 0);
        find(x);
        due("degree", x, x.number(0, -1), 3, 0);
        due("c(0)", x.number(0, 0), 3);
        due("c(1)", x.number(0, 1), 2);
        due("c(2)", x.number(0, 2), 1);
        due("c(3)", x.number(0, 3), 6);
        due("beyond", x, x.number(0, 4), 0, 0);
        due("empty", x, x.number(1, 0), NULL, 1);
        due("k -2", x, x.number(0, -2), BAD, 1);
        due("k 5", x, x.number(0, 5), BAD, 1);
        due("k bad of empty", x, x.number(1, 5), BAD, 1);
        due("place 10", x, x.number(10, 0), BAD, 1);
        due("place -1", x, x.number(-1, 0), BAD, 1);
        map(x, 0, 0, 0, 0);
        due("degree of 0", x, x.number(0, -1), 0, 0);
    }

    private static ReturnPoints oneOfEach() {
        ReturnPoints x = new ReturnPoints(7);
        map(x, 1, 4);
        map(x, 2, 4, 1);
        map(x, 3, 4, 1, 1);
        x.plain(4, 4);
        map(x, 5, 0, 0, 0, 1);
        map(x, 6, 0, 0, 2);
        map(x, 7, 1, 0, 0, 0, 2);
        map(x, 8, 0);
        return x;
    }

    private static void kind() {
        ReturnPoints x = oneOfEach();
        int[] told = {0, 1, 2, 3, 4, 5, 3, 5, 1};
        for (int place = 1; place <= 8; place++) {
            find(x);
            due("kind " + place, x, x.kind(place), told[place], 0);
        }
        due("empty", x, x.kind(0), NULL, 1);
        due("10", x, x.kind(10), BAD, 1);
        due("-1", x, x.kind(-1), BAD, 1);
    }

    private static void isAndAs(boolean as) {
        ReturnPoints x = oneOfEach();
        int[] told = {0, 1, 2, 3, 4, 5, 3, 5, 1};
        int[] degree = {0, 0, 1, 2, 2, 3, 2, 4, 0};
        for (int place = 1; place <= 8; place++) {
            for (int kind = 0; kind <= 5; kind++) {
                boolean fits = kind == 0 || kind == told[place] || kind == 3 && told[place] == 4;
                String call = place + " as " + kind;
                if (as) {
                    due(call, x, x.as(place, kind), fits ? degree[place] : KIND, fits ? 0 : 3);
                } else {
                    due(call, x, x.is(place, kind), fits ? 1 : 0, 0);
                }
            }
        }
    }

    private static void is() {
        isAndAs(false);
        ReturnPoints x = oneOfEach();
        due("of nothing", x, x.is(0, 0), 0, 0);
        find(x, 0);
        due("of nothing, status stays", x, x.is(0, 1), 0, 1);
        due("1", x, x.is(4, 4), 1, 1);
        due("0", x, x.is(4, 5), 0, 1);
        due("kind -1", x, x.is(4, -1), BAD, 1);
        due("kind 6", x, x.is(4, 6), BAD, 1);
        due("kind 6 of nothing", x, x.is(0, 6), BAD, 1);
        due("place 10", x, x.is(10, 0), BAD, 1);
        due("place -1", x, x.is(-1, 0), BAD, 1);
    }

    private static void as() {
        isAndAs(true);
        ReturnPoints x = oneOfEach();
        due("of nothing", x, x.as(0, 5), NULL, 1);
        due("kind -1", x, x.as(4, -1), BAD, 1);
        due("kind 6", x, x.as(4, 6), BAD, 1);
        due("kind 6 of nothing", x, x.as(0, 6), BAD, 1);
        due("place 10", x, x.as(10, 0), BAD, 1);
        due("place -1", x, x.as(-1, 0), BAD, 1);
        due("not that", x, x.as(5, 3), KIND, 3);
    }

    private static void ask() {
        ReturnPoints x = new ReturnPoints(7);
        map(x, 1, 4);
        map(x, 2, 4, 1);
        map(x, 3, 1, 1, 1);
        x.plain(4, 0);
        map(x, 5, 2, 0, 0, 1);
        find(x);
        due("size of flat", x, x.ask(1, 0), 1, 0);
        dueTrace(x, 10);
        due("size of straight", x.ask(2, 0), 7);
        dueTrace(x, 11);
        due("size of square", x.ask(3, 0), 8);
        dueTrace(x, 12, 10);
        due("size of plain", x.ask(4, 0), 8 + 8);
        dueTrace(x, 13, 12, 10, 22, 21, 20);
        due("size of high", x.ask(5, 0), 3);
        dueTrace(x, 10);
        due("mark of flat", x.ask(1, 1), 4);
        dueTrace(x, 20);
        due("mark of straight", x.ask(2, 1), 4);
        dueTrace(x, 20);
        due("mark of square", x.ask(3, 1), 8);
        dueTrace(x, 21, 20);
        due("mark of plain", x, x.ask(4, 1), 8, 0);
        dueTrace(x, 22, 21, 20);
        due("mark of high", x.ask(5, 1), 5);
        dueTrace(x, 23, 20, 10);
        due("what 2", x, x.ask(5, 2), BAD, 0);
        due("what -1", x, x.ask(5, -1), BAD, 0);
        due("place 10", x, x.ask(10, 0), BAD, 0);
        due("place -1", x, x.ask(-1, 0), BAD, 0);
        dueTrace(x, 23, 20, 10);
        due("empty", x, x.ask(0, 0), NULL, 1);
        dueTrace(x);
        x.plain(4, -1);
        due("period 2 of 0", x.ask(4, 1), 6 + 7 + 2);
        ReturnPoints y = new ReturnPoints(13);
        y.plain(0, 8);
        due("1 has period 3, 0 has 2", y.ask(0, 1), 8 + 13 + 2);
    }

    private static void trace() {
        ReturnPoints x = new ReturnPoints(7);
        dueTrace(x);
        x.plain(0, 1);
        dueTrace(x);
        x.ask(0, 0);
        dueTrace(x, 13, 12, 10, 22, 21, 20);
        find(x, 5);
        due("below", x, x.trace(-1), NONE, 1);
        due("least", x, x.trace(LEAST), NONE, 1);
        due("most", x, x.trace(MOST), NONE, 1);
        due("there", x, x.trace(0), 13, 1);
        x.kind(0);
        x.clear(0);
        dueTrace(x, 13, 12, 10, 22, 21, 20);
    }

    private static void step() {
        ReturnPoints x = new ReturnPoints(7);
        x.plain(0, 0);
        find(x);
        due("none", x, x.step(0, 3, 0), 3, 0);
        int[] way = {3, 2, 4, 2, 4, 2};
        for (int n = 0; n < way.length; n++) {
            due("n " + n, x.step(0, 3, n), way[n]);
        }
        due("many", x, x.step(0, 3, 1000000000), 4, 0);
        due("one less", x.step(0, 3, 999999999), 2);
        due("empty", x, x.step(1, 3, 1), NULL, 1);
        due("too many", x, x.step(0, 3, 1000000001), BAD, 1);
        due("fewer", x, x.step(0, 3, -1), BAD, 1);
        due("point 7", x, x.step(0, 7, 1), BAD, 1);
        due("point -1", x, x.step(0, -1, 1), BAD, 1);
        due("point 7 of empty", x, x.step(1, 7, 1), BAD, 1);
        due("place 10", x, x.step(10, 0, 1), BAD, 1);
        due("place -1", x, x.step(-1, 0, 1), BAD, 1);
        due("last point", x, x.step(0, 6, 1), 1, 0);
        map(x, 2, 1, 1);
        due("round and round", x.step(2, 0, 1000000000), 1000000000 % 7);
        map(x, 3, 1, 0, 0, 1);
        due("on a tail ahead of a ring of 1", x.step(3, 0, 1), 1);
        due("on that ring", x.step(3, 0, 1000000000), 2);
        ReturnPoints y = new ReturnPoints(13);
        y.plain(0, 1);
        due("a tail of 1, a ring of 4", y.step(0, 12, 1000000000), 1);
        due("a tail of 2, a ring of 4", y.step(0, 6, 3), 0);
    }

    private static void way() {
        ReturnPoints x = new ReturnPoints(7);
        x.plain(0, 0);
        int[][] due = {
            {0, 1, 0, 1}, {0, 1, 1, 2}, {0, 2, 2, 2}, {1, 2, 2, 0}, {0, 2, 2, 2}, {1, 2, 2, 0}, {1, 1, 1, 0}};
        for (int point = 0; point < 7; point++) {
            for (int what = 0; what < 4; what++) {
                find(x);
                due("point " + point + " what " + what, x, x.way(0, point, what), due[point][what], 0);
            }
        }
        due("empty", x, x.way(1, 0, 0), NULL, 1);
        due("what 4", x, x.way(0, 0, 4), BAD, 1);
        due("what -1", x, x.way(0, 0, -1), BAD, 1);
        due("point 7", x, x.way(0, 7, 0), BAD, 1);
        due("point -1", x, x.way(0, -1, 0), BAD, 1);
        due("point 7 of empty", x, x.way(1, 7, 0), BAD, 1);
        due("place 10", x, x.way(10, 0, 0), BAD, 1);
        due("place -1", x, x.way(-1, 0, 0), BAD, 1);
        map(x, 0, 3);
        due("another map there", x, x.way(0, 3, 3), 7, 0);
        due("its tails", x.way(0, 6, 0), 1);
        ReturnPoints y = new ReturnPoints(199);
        map(y, 0, 1, 1);
        due("as long as can be", y.way(0, 198, 1), 199);
    }

    private static void ring() {
        ReturnPoints x = new ReturnPoints(7);
        x.plain(0, 0);
        int[][] due = {{1, 0, 0, 1}, {1, 1, 2, 2}, {2, 2, 4, 4}};
        for (int ring = 0; ring < 3; ring++) {
            for (int what = 0; what < 4; what++) {
                find(x);
                due("ring " + ring + " what " + what, x, x.ring(0, ring, what), due[ring][what], 0);
            }
        }
        find(x, 1);
        due("ring 3", x, x.ring(0, 3, 0), NONE, 0);
        find(x, 1);
        due("ring -1", x, x.ring(0, -1, 3), NONE, 0);
        due("ring most", x.ring(0, MOST, 1), NONE);
        due("ring least", x.ring(0, LEAST, 2), NONE);
        due("empty", x, x.ring(1, -1, 0), NULL, 1);
        due("what 4", x, x.ring(0, 0, 4), BAD, 1);
        due("what -1", x, x.ring(0, -1, -1), BAD, 1);
        due("place 10", x, x.ring(10, 0, 0), BAD, 1);
        due("place -1", x, x.ring(-1, 0, 0), BAD, 1);
        map(x, 2, 1, 2);
        due("multiplier 2 to the power 3", x.ring(2, 0, 2), 1);
        due("ring of 3", x.ring(2, 0, 0), 3);
        due("multiplier of a point that stays", x.ring(2, 2, 2), 2);
        due("its least point", x.ring(2, 2, 1), 6);
        map(x, 3, 5);
        due("flat", x.ring(3, 0, 2), 0);
        due("all come to it", x.ring(3, 0, 3), 7);
        ReturnPoints three = new ReturnPoints(3);
        map(three, 0, 0, 0, 0, 1);
        due("3 x x is 0", three.ring(0, 2, 2), 0);
        due("2 stays", three.ring(0, 2, 1), 2);
    }

    private static void dueAll(ReturnPoints x, int place, int... want) {
        for (int what = 0; what < 6; what++) {
            find(x);
            due("all " + place + " " + what, x, x.all(place, what), want[what], 0);
        }
    }

    private static void all() {
        ReturnPoints x = new ReturnPoints(7);
        x.plain(0, 0);
        dueAll(x, 0, 3, 4, 2, 1, 3, 1);
        map(x, 1, 3);
        dueAll(x, 1, 1, 1, 1, 1, 6, 1);
        map(x, 2, 0, 1);
        dueAll(x, 2, 7, 7, 1, 0, 0, 0);
        map(x, 3, 1, 2);
        dueAll(x, 3, 3, 7, 3, 0, 0, 0);
        x.plain(4, -1);
        dueAll(x, 4, 1, 2, 2, 3, 3, 1);
        ReturnPoints three = new ReturnPoints(3);
        three.plain(0, 1);
        dueAll(three, 0, 1, 1, 1, 2, 1, 0);
        due("empty", x, x.all(5, 0), NULL, 1);
        due("what 6", x, x.all(0, 6), BAD, 1);
        due("what -1", x, x.all(5, -1), BAD, 1);
        due("place 10", x, x.all(10, 0), BAD, 1);
        due("place -1", x, x.all(-1, 0), BAD, 1);
    }

    private static void alike() {
        ReturnPoints x = new ReturnPoints(7);
        x.plain(0, 0);
        x.turn(1, 0, 3, 5);
        find(x);
        due("turned", x, x.alike(0, 1), 1, 0);
        due("the other way", x.alike(1, 0), 1);
        due("itself", x.alike(0, 0), 1);
        x.plain(2, 1);
        find(x);
        due("another", x, x.alike(0, 2), 0, 0);
        map(x, 3, 0, 1);
        map(x, 4, 0, 6);
        due("other periods", x.alike(3, 4), 0);
        due("other periods, back", x.alike(4, 3), 0);
        map(x, 5, 1, 1);
        map(x, 6, 3, 1);
        due("one ring both", x.alike(5, 6), 1);
        map(x, 7, 2);
        map(x, 8, 5);
        due("flat both", x.alike(7, 8), 1);
        due("map changed", x.plain(8, 0), 4);
        due("flat and square", x.alike(7, 8), 0);
        due("a empty", x, x.alike(9, 0), NULL, 1);
        due("b empty", x, x.alike(0, 9), NULL, 1);
        due("both empty", x, x.alike(9, 9), NULL, 1);
        due("a 10", x, x.alike(10, 9), BAD, 1);
        due("a -1", x, x.alike(-1, 9), BAD, 1);
        due("b 10", x, x.alike(9, 10), BAD, 1);
        due("b -1", x, x.alike(9, -1), BAD, 1);
        ReturnPoints three = new ReturnPoints(3);
        three.plain(0, 0);
        map(three, 1, 1, 1, 2);
        due("0 1 1 and 1 1 2", three.alike(0, 1), 1);
        map(three, 1, 1, 2, 1);
        due("0 1 1 and 1 1 0", three.alike(0, 1), 0);
        map(three, 2, 2);
        due("0 1 1 and 2 2 2", three.alike(0, 2), 0);
    }

    private static void round() {
        ReturnPoints x = new ReturnPoints(13);
        x.plain(0, 1);
        find(x);
        due("degree of R(1)", x, x.round(0, 1, -1), 2, 0);
        due("R(1) at 0", x.round(0, 1, 0), 1);
        due("R(1) at 1", x.round(0, 1, 1), 12);
        due("R(1) at 2", x.round(0, 1, 2), 1);
        due("R(2) at 0", x.round(0, 2, 0), 2);
        due("R(2) at 1", x.round(0, 2, 1), 1);
        due("R(2) at 2", x.round(0, 2, 2), 1);
        due("R(2) beyond", x, x.round(0, 2, 3), 0, 0);
        due("R(2) far beyond", x.round(0, 2, MOST), 0);
        int[] degrees = {0, 2, 2, 6, 12, 30, 54};
        for (int n = 6; n >= 1; n--) {
            due("degree of R(" + n + ")", x.round(0, n, -1), degrees[n]);
            due("first of R(" + n + ")", x.round(0, n, degrees[n]), 1);
        }
        map(x, 1, 1, 2, 0, 5);
        due("R(1) of 5 x x x + 2 x + 1", x.round(1, 1, 1), 1);
        due("its first", x.round(1, 1, 3), 5);
        due("R(2), degree", x.round(1, 2, -1), 6);
        due("R(2) at 0, a first that is not 1", x.round(1, 2, 0), 8);
        due("R(3), degree", x.round(1, 3, -1), 24);
        map(x, 2, 0, 1, 0, 0, 1);
        due("R(3) of degree 4", x, x.round(2, 3, -1), 60, 0);
        find(x, 9);
        due("4 to the power 4", x, x.round(2, 4, 0), FULL, 1);
        due("3 to the power 4", x, x.round(1, 4, 0), FULL, 1);
        due("3 to the power 6", x, x.round(1, 6, -1), FULL, 1);
        map(x, 3, 5);
        due("flat", x, x.round(3, 1, 0), KIND, 3);
        map(x, 4, 5, 1);
        due("straight", x, x.round(4, 6, 0), KIND, 3);
        due("empty", x, x.round(5, 6, 0), NULL, 1);
        due("n 0", x, x.round(0, 0, 0), BAD, 1);
        due("n 7", x, x.round(0, 7, 0), BAD, 1);
        due("k -2", x, x.round(0, 1, -2), BAD, 1);
        due("k -2 of empty", x, x.round(5, 1, -2), BAD, 1);
        due("place 10", x, x.round(10, 1, 0), BAD, 1);
        due("place -1", x, x.round(-1, 1, 0), BAD, 1);
        x.plain(0, 2);
        due("another map there", x, x.round(0, 1, 0), 2, 0);
        due("its R(2)", x.round(0, 2, 0), 3);
    }

    private static void dueFractions(ReturnPoints x, int a, int d, int[][] want) {
        String call = "fraction(" + a + ", " + d + ") ";
        for (int what = 0; what < 3; what++) {
            due(call + "how many", x.fraction(a, d, NONE, what), want.length);
            for (int i = 0; i < want.length; i++) {
                due(call + i + " " + what, x.fraction(a, d, i, what), want[i][what]);
            }
            due(call + "beyond", x.fraction(a, d, want.length, what), NONE);
            due(call + "below", x.fraction(a, d, -1, what), NONE);
        }
    }

    private static void fraction() {
        ReturnPoints x = new ReturnPoints(7);
        dueFractions(x, 0, 1, new int[][] {{-1, 1, 1}, {0, 0, 1}, {1, 0, 1}});
        dueFractions(x, -1, 1, new int[][] {{-1, 0, 2}, {0, 0, 2}, {1, 1, 2}});
        dueFractions(x, 1, 2, new int[][] {{-1, 1, 1}, {1, 0, 1}});
        dueFractions(x, -29, 4, new int[][] {{-7, 0, 3}, {-5, 1, 3}, {-3, 2, 3}, {-1, 0, 3},
            {1, 1, 3}, {3, 2, 3}, {5, 0, 3}, {7, 1, 3}});
        dueFractions(x, 1, 1, new int[][] {});
        dueFractions(x, 10000, 1, new int[][] {});
        dueFractions(x, -9900, 1, new int[][] {{-100, 1, 1}, {-99, 0, 1}, {99, 1, 1}, {100, 0, 1}});
        dueFractions(x, -10000, 1, new int[][] {});
        dueFractions(x, 221, 30, new int[][] {{-17, 1, 1}, {-13, 1, 1}, {13, 0, 1}, {17, 0, 1}});
        dueFractions(x, -9379, 30, new int[][] {{-113, 1, 1}, {-83, 0, 1}, {83, 1, 1}, {113, 0, 1}});
        dueFractions(x, -9890, 29, new int[][] {{-115, 1, 1}, {-86, 0, 1}, {86, 1, 1}, {115, 0, 1}});
        due("least i", x.fraction(0, 1, LEAST, 0), NONE);
        due("most i", x.fraction(0, 1, MOST, 0), NONE);
        find(x, 9);
        due("divisor", x, x.fraction(2, 4, NONE, 0), BAD, 1);
        due("divisor of 0", x, x.fraction(0, 2, NONE, 0), BAD, 1);
        due("divisor below 0", x, x.fraction(-9, 3, 0, 0), BAD, 1);
        due("a above", x, x.fraction(10001, 1, NONE, 0), BAD, 1);
        due("a below", x, x.fraction(-10001, 1, NONE, 0), BAD, 1);
        due("a least", x, x.fraction(LEAST, 1, NONE, 0), BAD, 1);
        due("d 0", x, x.fraction(1, 0, NONE, 0), BAD, 1);
        due("d -1", x, x.fraction(1, -1, NONE, 0), BAD, 1);
        due("d 31", x, x.fraction(1, 31, NONE, 0), BAD, 1);
        due("what 3", x, x.fraction(0, 1, NONE, 3), BAD, 1);
        due("what -1", x, x.fraction(0, 1, 9, -1), BAD, 1);
        due("fine, status stays", x, x.fraction(0, 1, 0, 0), -1, 1);
        due("none, status stays", x, x.fraction(0, 1, 3, 0), NONE, 1);
    }

    private static void next() {
        ReturnPoints x = new ReturnPoints(7);
        due("0 and 3", x.next(0, 1, 3), 9);
        due("0 and 0", x.next(0, 1, 0), 0);
        due("to 0", x.next(-9, 1, 3), 0);
        due("-29 by 16, -1 by 4", x.next(-29, 4, -1), -7);
        due("5 by 4", x.next(-29, 4, 5), -1);
        due("1 by 4, 1 by 2", x.next(1, 2, 1), 1);
        due("farther", x.next(1, 2, 3), 5);
        due("lower number 4", x.next(2, 3, 2), 2);
        due("lower number 9", x.next(1, 3, 1), NONE);
        due("lower number 1", x.next(3, 2, 1), NONE);
        due("lower number 3 of 9", x.next(-1, 3, 1), NONE);
        due("n most", x.next(10000, 1, 1000), 1010000);
        due("n least", x.next(-10000, 1, -1000), 990000);
        find(x, 9);
        due("n above", x, x.next(0, 1, 1001), BAD, 1);
        due("n below", x, x.next(0, 1, -1001), BAD, 1);
        due("n least", x, x.next(0, 1, LEAST), BAD, 1);
        due("n with d", x, x.next(1, 2, 2), BAD, 1);
        due("n 0 with d", x, x.next(1, 2, 0), BAD, 1);
        due("a with d", x, x.next(3, 6, 1), BAD, 1);
        due("a 0 with d", x, x.next(0, 2, 1), BAD, 1);
        due("a above", x, x.next(10001, 1, 1), BAD, 1);
        due("a below", x, x.next(-10001, 1, 1), BAD, 1);
        due("d 0", x, x.next(1, 0, 1), BAD, 1);
        due("d 31", x, x.next(1, 31, 1), BAD, 1);
        due("fine, status stays", x, x.next(0, 1, 3), 9, 1);
        due("none, status stays", x, x.next(1, 3, 1), NONE, 1);
    }

    private static void dueCounts(ReturnPoints x, int... want) {
        for (int what = 0; what < 8; what++) {
            due("count " + what, x.count(what), want[what]);
        }
    }

    private static void count() {
        ReturnPoints x = oneOfEach();
        dueCounts(x, 0, 8, 2, 1, 3, 1, 2, 7);
        x.sheet(0, 0, 0);
        x.sheet(3, 2, 40);
        x.sheet(3, 1, 4);
        x.clear(4);
        x.clear(8);
        dueCounts(x, 2, 6, 1, 1, 2, 0, 2, 7);
        x.plain(5, 1);
        x.plain(0, 1);
        x.drop(0);
        dueCounts(x, 1, 7, 1, 1, 4, 2, 1, 7);
        find(x, 9);
        due("-1", x, x.count(-1), BAD, 1);
        due("8", x, x.count(8), BAD, 1);
        due("least", x, x.count(LEAST), BAD, 1);
        due("status stays", x, x.count(0), 1, 1);
    }

    private static void status() {
        ReturnPoints x = new ReturnPoints(7);
        due("at first", x.status(), 0);
        due("again", x.status(), 0);
        due("null", x, x.drop(0), NULL, 1);
        due("stays", x.status(), 1);
        x.sheet(0, 0, 1);
        due("place", x, x.set(0, 1, 1), PLACE, 2);
        x.plain(0, 1);
        due("kind", x, x.as(0, 1), KIND, 3);
        due("size", x, x.sheet(1, 0, -1), SIZE, 4);
        x.sheet(1, 1, 1);
        due("store", x, x.copy(0, 0, 1, 0, 1), STORE, 5);
        due("bad", x, x.drop(8), BAD, 5);
        x.behind(1, 0, 0);
        due("store", x, x.copy(0, 0, 1, 0, 1), STORE, 5);
        due("full", x, x.behind(2, 1, 1), FULL, 5);
        due("clear", x, x.clear(1), 1, 5);
        due("is", x, x.is(0, 0), 1, 5);
        due("trace", x, x.trace(0), NONE, 5);
        due("fraction", x, x.fraction(0, 1, NONE, 0), 3, 5);
        due("next", x, x.next(0, 1, 1), 1, 5);
        due("count", x, x.count(7), 7, 5);
        due("none of ring", x, x.ring(0, 9, 0), NONE, 0);
    }

    public static void main(String[] args) {
        part = "promise 1"; newObject();
        part = "promise 2"; sheet();
        part = "promise 3"; set();
        part = "promise 4"; copy();
        part = "promise 5"; drop();
        part = "promise 6"; map();
        part = "promise 7"; plain();
        part = "promise 8"; turn();
        part = "promise 9"; behind();
        part = "promise 10"; clear();
        part = "promise 11"; number();
        part = "promise 12"; kind();
        part = "promise 13"; is();
        part = "promise 14"; as();
        part = "promise 15"; ask();
        part = "promise 16"; trace();
        part = "promise 17"; step();
        part = "promise 18"; way();
        part = "promise 19"; ring();
        part = "promise 20"; all();
        part = "promise 21"; alike();
        part = "promise 22"; round();
        part = "promise 23"; fraction();
        part = "promise 24"; next();
        part = "promise 25"; count();
        part = "promise 26"; status();
        System.out.println(wrong == 0 ? "promises 1 to 26: all answers are as due" : wrong + " answers are not as due");
        if (wrong != 0) {
            System.exit(1);
        }
    }
}
