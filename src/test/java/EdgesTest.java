import java.lang.reflect.InvocationTargetException;
import java.lang.reflect.Method;
import java.util.ArrayList;
import java.util.Arrays;
import java.util.HashMap;
import java.util.List;
import java.util.Map;

/**
 * A test for each sentence of the document that names a boundary case, by its promise and its words:
 * what is just accepted, what is just refused, what stands behind a refusal, and which refusal is first.
 */
public final class EdgesTest {
    private static final int NONE = -1000000;
    private static final int BAD = -1000001;
    private static final int FULL = -1000003;
    private static final int NULL = -1000011;
    private static final int PLACE = -1000012;
    private static final int KIND = -1000013;
    private static final int SIZE = -1000014;
    private static final int STORE = -1000015;
    private static final int LEAST = Integer.MIN_VALUE;
    private static final int MOST = Integer.MAX_VALUE;
    private static final int STATUSES = 6;
    private static final int MOST_CALLS = 512;

    private static final Map<String, Method> CALLS = new HashMap<>();
    private static String part = "";
    private static String sentence = "";
    private static int tests = 0;
    private static int wrong = 0;

    /** One object and the calls made on it, which are told where an answer is not as due. */
    private static final class Run {
        final ReturnPoints x;
        int calls = 0;

        Run(int p) {
            x = new ReturnPoints(p);
        }

        long call(String name, long... args) {
            calls++;
            if (calls > MOST_CALLS) {
                complain("a test makes more calls than an object is for");
            }
            Method method = CALLS.get(name);
            Object[] given = new Object[args.length];
            for (int i = 0; i < args.length; i++) {
                given[i] = method.getParameterTypes()[i] == long.class ? (Object) args[i] : (Object) Math.toIntExact(args[i]);
            }
            try {
                return ((Number) method.invoke(x, given)).longValue();
            } catch (InvocationTargetException thrown) {
                complain(shown(name, args) + " threw " + thrown.getCause());
                return Long.MIN_VALUE + 1;
            } catch (IllegalAccessException | IllegalArgumentException unlike) {
                throw new IllegalStateException(shown(name, args), unlike);
            }
        }

        Run due(long want, String name, long... args) {
            long got = call(name, args);
            if (got != want) {
                complain(shown(name, args) + " answered " + got + ", due is " + want);
            }
            return this;
        }

        Run status(int want) {
            return due(want, "status");
        }

        /** c(0), c(1), .. of a place, and its degree; those not given are due to be 0. */
        Run numbers(int place, int degree, int... want) {
            due(degree, "number", place, -1);
            for (int k = 0; k < 5; k++) {
                due(k < want.length ? want[k] : 0, "number", place, k);
            }
            return this;
        }

        Run trace(int... want) {
            for (int i = 0; i < 17; i++) {
                due(i < want.length ? want[i] : NONE, "trace", i);
            }
            return this;
        }

        /** A MAP by its numbers; SHEET 5 is made for them, and missing again behind it. */
        Run with(int place, long... c) {
            call("sheet", 5, 2, c.length);
            for (int i = 0; i < c.length; i++) {
                call("set", 5, i, c[i]);
            }
            call("map", place, 5, 0, c.length);
            call("drop", 5);
            return this;
        }

        /** A SHEET with these ITEMS. */
        Run items(int sheet, int lane, long... items) {
            call("sheet", sheet, lane, items.length);
            for (int i = 0; i < items.length; i++) {
                call("set", sheet, i, items[i]);
            }
            return this;
        }

        /** The ITEMS from i on are congruent to these; read by way of place 9. */
        Run dueItems(int sheet, int i, int... want) {
            for (int k = 0; k < want.length; k++) {
                call("map", 9, sheet, i + k, 1);
                due(want[k], "number", 9, 0);
            }
            return this;
        }

        List<Long> traced() {
            List<Long> all = new ArrayList<>();
            for (int i = -1; i < 17; i++) {
                all.add(call("trace", i));
            }
            return all;
        }

        /** All else that the object tells, but status(): this uses it up. */
        List<Long> told() {
            List<Long> all = new ArrayList<>();
            for (int what = 0; what < 8; what++) {
                all.add(call("count", what));
            }
            for (int place = 0; place < 10; place++) {
                all.add(call("kind", place));
                for (int k = -1; k < 5; k++) {
                    all.add(call("number", place, k));
                }
            }
            for (int sheet = 0; sheet < 8; sheet++) {
                for (int i = 0; i < 40 && call("map", 9, sheet, i, 1) > 0; i++) {
                    all.add(call("number", 9, 0));
                }
                all.add(call("copy", sheet, 0, 0, 0, 0));
                all.add(call("set", sheet, 0, (1L << 40) + 200));
                all.add(call("drop", sheet));
            }
            return all;
        }
    }

    private static String shown(String name, long... args) {
        String list = Arrays.toString(args);
        return name + "(" + list.substring(1, list.length() - 1) + ")";
    }

    private static void complain(String what) {
        wrong++;
        System.out.println("  WRONG in " + part + " | " + sentence + ": " + what);
    }

    private static void edge(String words, Runnable test) {
        sentence = words;
        tests++;
        int ahead = wrong;
        test.run();
        System.out.println((wrong == ahead ? "  holds " : "  BROKEN ") + part + " | " + words);
    }

    private static Run fresh(int p) {
        return new Run(p);
    }

    /**
     * Modulo 13, with THE TRACE of an ask, and with that status(). SHEETS 5, 6 are missing, places 6, 7 empty;
     * SHEETS of 5, 0 and 40 bytes (0, 3, 4), of 3 and 2 ints (1, 7), of 4 longs (2); a MAP of each kind.
     */
    private static Run room(int status) {
        Run run = fresh(13);
        run.with(0, 4).with(1, 4, 1).with(2, 1, 1, 1).with(3, 1, 0, 1).with(4, 2, 0, 0, 1).with(5, 0, 0, 0, 0, 1);
        run.with(8, 0).with(9, 0, 0, 1);
        run.items(0, 0, 1, 2, 3, 4, 5).items(1, 1, 6, 7, 8).items(2, 2, 9, 10, 11, 12).items(7, 1, 3, 4);
        run.call("sheet", 3, 0, 0);
        run.call("sheet", 4, 0, 40);
        run.call("set", 4, 39, 11);
        run.call("ask", 3, 0);
        bring(run, status);
        return run;
    }

    /** A call with that FINDING, or with none. */
    private static void bring(Run run, int status) {
        switch (status) {
            case 1: run.call("kind", 6); break;
            case 2: run.call("set", 0, 99, 0); break;
            case 3: run.call("as", 3, 5); break;
            case 4: run.call("sheet", 0, 0, -1); break;
            case 5: run.call("copy", 0, 0, 1, 0, 0); break;
            default: run.call("kind", 0);
        }
        run.status(status);
    }

    private static List<Long> untouched = null;
    private static List<Long> untouchedTrace = null;

    private static void dueUntouched(Run run, String call) {
        if (untouched == null) {
            untouchedTrace = room(0).traced();
            untouched = room(0).told();
        }
        if (!run.traced().equals(untouchedTrace)) {
            complain("THE TRACE is another behind " + call);
        }
        if (!run.told().equals(untouched)) {
            complain("something is changed behind " + call);
        }
    }

    /** The answer in the room; BAD, FULL leave all as it was, a FINDING all but status(). */
    private static void refused(long answer, String name, long... args) {
        for (int before = 0; before < STATUSES; before++) {
            Run run = room(before).due(answer, name, args);
            run.status(answer < -1000010 ? (int) (-1000010 - answer) : before);
            dueUntouched(run, shown(name, args));
        }
    }

    /** The answer in the room of a call that changes something: it has no FINDING. */
    private static void done(long answer, String name, long... args) {
        for (int before = 0; before < STATUSES; before++) {
            room(before).due(answer, name, args).status(0);
        }
    }

    /** The answer in the room of a call that only asks: it has no FINDING. */
    private static void asked(long answer, String name, long... args) {
        for (int before = 0; before < STATUSES; before++) {
            Run run = room(before).due(answer, name, args).status(0);
            dueUntouched(run, shown(name, args));
        }
    }

    /** The answer in the room of a call that asks, and leaves status() as it was. */
    private static void quiet(long answer, String name, long... args) {
        for (int before = 0; before < STATUSES; before++) {
            Run run = room(before).due(answer, name, args).status(before);
            dueUntouched(run, shown(name, args));
        }
    }

    /** Argument number which is BAD just outside of least .. most, and far outside. */
    private static void badBeyond(int least, int most, int which, String name, long... args) {
        for (long value : new long[] {least - 1L, most + 1L, LEAST, MOST}) {
            long[] given = args.clone();
            given[which] = value;
            refused(BAD, name, given);
        }
    }

    private static boolean isPrime(int n) {
        for (int by = 2; by < n; by++) {
            if (n % by == 0) {
                return false;
            }
        }
        return n > 1;
    }

    // ---- the terms

    private static void termsOfSheets() {
        part = "Terms 1";
        edge("SHEETS 0 .. 7 are missing (at first)", () -> {
            for (int sheet = 0; sheet < 8; sheet++) {
                fresh(13).due(NULL, "set", sheet, 0, 1).status(1).due(0, "count", 0);
                fresh(13).due(NULL, "drop", sheet).due(NULL, "map", 0, sheet, 0, 1).due(NULL, "copy", sheet, 0, sheet, 0, 0);
                fresh(13).due(1, "sheet", sheet, 0, 1).due(1, "count", 0).due(1, "drop", sheet);
            }
            fresh(13).due(BAD, "drop", -1).due(BAD, "drop", 8);
        });
        edge("a LANE (0 bytes, 1 ints, 2 longs)", () -> {
            long v = (1L << 40) + (1L << 20) + 200;
            fresh(13).due(1, "sheet", 0, 0, 1).due(-56, "set", 0, 0, v);
            fresh(13).due(1, "sheet", 0, 1, 1).due((1L << 20) + 200, "set", 0, 0, v);
            fresh(13).due(1, "sheet", 0, 2, 1).due(v, "set", 0, 0, v);
            fresh(13).due(BAD, "sheet", 0, -1, 1).due(BAD, "sheet", 0, 3, 1).due(0, "count", 0);
        });
        edge("0 to 40 ITEMS", () -> {
            fresh(13).due(0, "sheet", 0, 0, 0).due(PLACE, "set", 0, 0, 1).due(0, "drop", 0);
            fresh(13).due(40, "sheet", 0, 0, 40).due(1, "set", 0, 39, 1).due(PLACE, "set", 0, 40, 1).due(40, "drop", 0);
            fresh(13).due(BAD, "sheet", 0, 0, 41).due(SIZE, "sheet", 0, 0, -1).due(0, "count", 0);
        });
        edge("ITEMS, 0 at first", () -> {
            for (int lane = 0; lane < 3; lane++) {
                Run run = fresh(13);
                run.due(40, "sheet", 0, lane, 40).dueItems(0, 0, new int[40]);
            }
        });
        edge("THE SHELF has places 0 .. 9, each empty (at first)", () -> {
            for (int place = 0; place < 10; place++) {
                fresh(13).due(NULL, "kind", place).status(1).due(0, "count", 1).due(0, "is", place, 0).due(0, "clear", place);
                fresh(13).due(4, "plain", place, 1).due(4, "kind", place).due(1, "count", 1);
            }
            fresh(13).due(BAD, "plain", -1, 1).due(BAD, "plain", 10, 1).due(0, "count", 1);
        });
        edge("MAPS never change: not by their SHEET", () -> {
            Run run = fresh(13).items(0, 2, 1, 2, 3).items(1, 2, 5, 5, 5).due(3, "map", 0, 0, 0, 3);
            run.due(9, "set", 0, 0, 9).numbers(0, 2, 1, 2, 3);
            run.due(3, "copy", 1, 0, 0, 0, 3).numbers(0, 2, 1, 2, 3);
            run.due(2, "sheet", 0, 0, 2).numbers(0, 2, 1, 2, 3);
            run.due(2, "drop", 0).numbers(0, 2, 1, 2, 3);
        });
        edge("MAPS never change: not by other places", () -> {
            Run run = fresh(13).with(0, 1, 2, 3).with(1, 1, 1);
            run.due(3, "turn", 2, 0, 2, 1).due(3, "behind", 3, 0, 1).due(3, "behind", 4, 1, 0);
            run.due(1, "clear", 2).due(4, "plain", 3, 1).due(4, "plain", 1, 5);
            run.numbers(0, 2, 1, 2, 3).numbers(4, 2, 2, 2, 3);
        });
    }

    private static void termsOfKinds() {
        part = "Terms 1";
        edge("a polynomial f modulo p of degree 0 to 4", () -> {
            fresh(13).with(0, 5).numbers(0, 0, 5).with(1, 1, 2, 3, 4, 5).numbers(1, 4, 1, 2, 3, 4, 5);
            fresh(13).with(0, 1, 2, 3, 4, 13).numbers(0, 3, 1, 2, 3, 4).with(1, 1, 2, 3, 26, -13).numbers(1, 2, 1, 2, 3);
            fresh(13).with(0, 1, 2, 0, 0, 0).numbers(0, 1, 1, 2).with(1, 1, 0, 0, 0, 0).numbers(1, 0, 1);
        });
        edge("on POINTS 0 .. p - 1", () -> {
            for (int p : new int[] {3, 13, 199}) {
                Run run = fresh(p).with(0, 1, 1).due(1, "step", 0, 0, 1).due(0, "step", 0, p - 1, 1);
                run.due(BAD, "step", 0, -1, 1).due(BAD, "step", 0, p, 1);
            }
        });
        edge("1 FLAT: degree 0 (also 0 alone)", () -> {
            fresh(13).with(0, 0).due(1, "kind", 0).numbers(0, 0).with(1, 12).due(1, "kind", 1);
            fresh(13).with(0, 13, 0, -13, 26, 0).due(1, "kind", 0).numbers(0, 0).with(1, 0, 1).due(2, "kind", 1);
        });
        edge("2 STRAIGHT: degree 1", () -> {
            fresh(13).with(0, 0, 1).due(2, "kind", 0).with(1, 0, 12, 0, 0, 0).due(2, "kind", 1);
            fresh(13).with(0, 1, 13).due(1, "kind", 0).with(1, 1, 1, 2).due(3, "kind", 1);
        });
        edge("3 SQUARE: degree 2", () -> {
            fresh(13).with(0, 0, 0, 2).due(3, "kind", 0).with(1, 0, 1, 1, 13).due(3, "kind", 1);
            fresh(13).with(0, 1, 1, 13).due(2, "kind", 0).with(1, 0, 1, 1, 1).due(5, "kind", 1);
        });
        edge("4 PLAIN, a SQUARE one: c(2) is 1, c(1) is 0", () -> {
            fresh(13).with(0, 5, 0, 1).due(4, "kind", 0).with(1, 5, 13, 14).due(4, "kind", 1).with(2, 0, -13, -12).due(4, "kind", 2);
            fresh(13).with(0, 5, 0, 2).due(3, "kind", 0).with(1, 5, 0, 12).due(3, "kind", 1);
            fresh(13).with(0, 5, 1, 1).due(3, "kind", 0).with(1, 5, 12, 1).due(3, "kind", 1);
        });
        edge("5 HIGH: degree 3 or 4", () -> {
            fresh(13).with(0, 0, 0, 0, 1).due(5, "kind", 0).with(1, 0, 0, 0, 0, 12).due(5, "kind", 1);
            fresh(13).with(0, 5, 0, 1, 1).due(5, "kind", 0).with(1, 5, 0, 1, 0, 1).due(5, "kind", 1);
            fresh(13).with(0, 5, 0, 1, 13, 26).due(4, "kind", 0);
        });
        edge("It is told as the first that fits of PLAIN, SQUARE, STRAIGHT, FLAT, HIGH", () -> {
            Run run = room(0);
            int[] told = {1, 2, 3, 4, 5, 5, NULL, NULL, 1, 4};
            for (int place = 0; place < 10; place++) {
                run.due(told[place], "kind", place);
            }
        });
    }

    private static void termsOfFindings() {
        part = "Terms";
        edge("less 1 NULL (a SHEET that is missing, a place of THE SHELF that is empty)", () -> {
            refused(-1000010 - 1, "drop", 5);
            refused(-1000010 - 1, "kind", 6);
        });
        edge("2 PLACE (no such place of a SHEET)", () -> refused(-1000010 - 2, "set", 0, 5, 1));
        edge("3 KIND (a MAP that is not that)", () -> refused(-1000010 - 3, "as", 3, 5));
        edge("4 SIZE (fewer than none)", () -> refused(-1000010 - 4, "sheet", 5, 0, -1));
        edge("5 STORE (SHEETS of two LANES)", () -> refused(-1000010 - 5, "copy", 0, 0, 1, 0, 1));
        edge("the constants", () -> {
            if (ReturnPoints.NONE != NONE || ReturnPoints.BAD != BAD || ReturnPoints.FULL != FULL) {
                complain("NONE, BAD, FULL are others");
            }
        });
        part = "What it is";
        edge("An object is used for at most 512 calls", () -> {
            Run run = fresh(199).due(4, "plain", 0, -1);
            while (run.calls < MOST_CALLS - 8) {
                run.call("round", 0, 6, run.calls % 54);
                run.call("fraction", -29, 4, run.calls % 8, 1);
                run.call("turn", 1 + run.calls % 9, 0, 1 + run.calls % 198, run.calls);
                run.call("sheet", run.calls % 8, 2, 40);
            }
            while (run.calls < MOST_CALLS - 4) {
                run.call("kind", 0);
            }
            run.due(54, "round", 0, 6, -1).due(-7, "fraction", -29, 4, 0, 0).due(0, "step", 0, 0, 1000000000).status(0);
        });
    }

    // ---- promises 1 to 5

    private static void newObject() {
        part = "Promise 1: A new object";
        edge("Modulo p, if that is a prime from 3 to 199", () -> {
            for (int p = 3; p <= 199; p++) {
                if (isPrime(p)) {
                    fresh(p).due(p, "count", 7).with(0, 0, 1).due(p - 1, "step", 0, p - 1, 1).due(BAD, "step", 0, p, 1);
                }
            }
        });
        edge("else 101: not a prime", () -> {
            for (int p = 4; p <= 198; p++) {
                if (!isPrime(p)) {
                    fresh(p).due(101, "count", 7).with(0, 0, 1).due(100, "step", 0, 100, 1).due(BAD, "step", 0, 101, 1);
                }
            }
        });
        edge("else 101: below 3, above 199", () -> {
            for (int p : new int[] {2, 1, 0, -1, -2, -3, -7, -101, -199, LEAST, LEAST + 1, 200, 201, 211, 223, 65539, MOST}) {
                fresh(p).due(101, "count", 7);
            }
        });
        edge("all is missing, empty", () -> {
            Run run = fresh(13).status(0).trace();
            for (int what = 0; what < 7; what++) {
                run.due(0, "count", what);
            }
            run.status(0);
        });
    }

    private static void sheet() {
        part = "Promise 2: sheet";
        edge("A SHEET of a LANE with n ITEMS: n", () -> {
            for (int lane = 0; lane < 3; lane++) {
                for (int n : new int[] {0, 1, 39, 40}) {
                    done(n, "sheet", 5, lane, n);
                    Run run = room(0).due(n, "sheet", 5, lane, n).due(7, "count", 0).due(PLACE, "set", 5, n, 1);
                    if (n > 0) {
                        run.due(1, "set", 5, 0, 1).due(1, "set", 5, n - 1, 1);
                    }
                    run.due(n, "drop", 5);
                }
            }
        });
        edge("in place of what is there", () -> {
            Run run = room(0).due(4, "sheet", 0, 2, 4).due(6, "count", 0).dueItems(0, 0, 0, 0, 0, 0);
            run.due(PLACE, "set", 0, 4, 1).due(1L << 40, "set", 0, 3, 1L << 40).due(4, "drop", 0).due(NULL, "drop", 0);
            room(0).due(5, "sheet", 0, 0, 5).dueItems(0, 0, 0, 0, 0, 0, 0);
            room(0).due(0, "sheet", 0, 0, 0).due(PLACE, "set", 0, 0, 1).due(6, "count", 0).due(0, "drop", 0);
        });
        edge("BAD: SHEET", () -> {
            done(1, "sheet", 0, 0, 1);
            done(1, "sheet", 7, 0, 1);
            badBeyond(0, 7, 0, "sheet", 0, 0, 1);
        });
        edge("BAD: LANE", () -> {
            done(1, "sheet", 5, 0, 1);
            done(1, "sheet", 5, 2, 1);
            badBeyond(0, 2, 1, "sheet", 5, 0, 1);
        });
        edge("BAD: n above 40", () -> {
            done(40, "sheet", 5, 0, 40);
            refused(BAD, "sheet", 5, 0, 41);
            refused(BAD, "sheet", 0, 0, 41);
            refused(BAD, "sheet", 5, 0, MOST);
        });
        edge("SIZE", () -> {
            done(0, "sheet", 0, 0, 0);
            refused(SIZE, "sheet", 0, 0, -1);
            refused(SIZE, "sheet", 5, 1, -1);
            refused(SIZE, "sheet", 5, 2, LEAST);
        });
        edge("BAD ahead of SIZE", () -> {
            refused(BAD, "sheet", 8, 0, -1);
            refused(BAD, "sheet", -1, 0, -1);
            refused(BAD, "sheet", 5, 3, -1);
            refused(BAD, "sheet", 5, -1, LEAST);
        });
    }

    private static void set() {
        part = "Promise 3: set";
        edge("its lowest bits, read with their sign: bytes", () -> {
            long[][] cut = {{127, 127}, {128, -128}, {-128, -128}, {-129, 127}, {255, -1}, {256, 0}, {-1, -1}, {-256, 0},
                {Long.MAX_VALUE, -1}, {Long.MIN_VALUE, 0}, {(1L << 40) + 200, -56}};
            for (long[] one : cut) {
                done(one[1], "set", 0, 4, one[0]);
            }
        });
        edge("its lowest bits, read with their sign: ints", () -> {
            long[][] cut = {{MOST, MOST}, {MOST + 1L, LEAST}, {LEAST, LEAST}, {LEAST - 1L, MOST}, {(1L << 32) - 1, -1},
                {1L << 32, 0}, {128, 128}, {-(1L << 32), 0}, {Long.MAX_VALUE, -1}, {Long.MIN_VALUE, 0}};
            for (long[] one : cut) {
                done(one[1], "set", 1, 2, one[0]);
            }
        });
        edge("its lowest bits, read with their sign: longs", () -> {
            for (long v : new long[] {Long.MAX_VALUE, Long.MIN_VALUE, 1L << 32, MOST + 1L, LEAST - 1L, -1, 0, 128}) {
                done(v, "set", 2, 3, v);
            }
        });
        edge("ITEM i becomes v: what it is then", () -> {
            room(0).due(-128, "set", 0, 4, 128).dueItems(0, 0, 1, 2, 3, 4, Math.floorMod(-128, 13));
            room(0).due(LEAST, "set", 1, 0, 1L << 31).dueItems(1, 0, Math.floorMod(LEAST, 13), 7, 8);
            room(0).due(1L << 40, "set", 2, 1, 1L << 40).dueItems(2, 0, 9, (int) ((1L << 40) % 13), 11, 12);
        });
        edge("BAD: SHEET", () -> {
            done(9, "set", 0, 0, 9);
            done(9, "set", 7, 0, 9);
            badBeyond(0, 7, 0, "set", 0, 0, 9);
        });
        edge("NULL", () -> {
            refused(NULL, "set", 5, 0, 9);
            refused(NULL, "set", 6, 0, 9);
            room(0).due(5, "drop", 0).due(NULL, "set", 0, 0, 9).status(1);
        });
        edge("PLACE", () -> {
            done(9, "set", 0, 0, 9);
            done(9, "set", 0, 4, 9);
            done(9, "set", 4, 39, 9);
            for (long i : new long[] {-1, 5, LEAST, MOST}) {
                refused(PLACE, "set", 0, i, 9);
            }
            refused(PLACE, "set", 4, 40, 9);
            refused(PLACE, "set", 3, 0, 9);
        });
        edge("NULL ahead of PLACE", () -> {
            refused(NULL, "set", 5, -1, 9);
            refused(NULL, "set", 6, 40, 9);
        });
        edge("BAD ahead of NULL, PLACE", () -> {
            refused(BAD, "set", 8, -1, 9);
            refused(BAD, "set", -1, 40, 9);
        });
    }

    private static void copy() {
        part = "Promise 4: copy";
        edge("n ITEMS of a from i on come to b from j on: n", () -> {
            done(5, "copy", 0, 0, 4, 35, 5);
            room(0).due(5, "copy", 0, 0, 4, 35, 5).dueItems(4, 33, 0, 0, 1, 2, 3, 4, 5).dueItems(0, 0, 1, 2, 3, 4, 5);
            room(0).due(1, "copy", 0, 4, 4, 0, 1).dueItems(4, 0, 5, 0).dueItems(4, 39, 11);
            room(0).due(2, "copy", 1, 1, 7, 0, 2).dueItems(7, 0, 7, 8).dueItems(1, 0, 6, 7, 8);
            room(0).due(40, "copy", 4, 0, 4, 0, 40).dueItems(4, 38, 0, 11);
        });
        edge("n ITEMS: longs whole, bytes and ints with their sign", () -> {
            long v = (1L << 40) + 1;
            room(0).items(6, 2, v).due(1, "copy", 6, 0, 2, 0, 1).dueItems(2, 0, (int) (v % 13), 10);
            room(0).items(6, 1, LEAST).due(1, "copy", 6, 0, 1, 0, 1).dueItems(1, 0, Math.floorMod(LEAST, 13), 7);
            room(0).items(6, 0, -128).due(1, "copy", 6, 0, 0, 0, 1).dueItems(0, 0, Math.floorMod(-128, 13), 2);
        });
        edge("n ITEMS: none", () -> {
            asked(0, "copy", 0, 0, 0, 0, 0);
            asked(0, "copy", 0, 5, 4, 40, 0);
            asked(0, "copy", 3, 0, 0, 5, 0);
            asked(0, "copy", 3, 0, 3, 0, 0);
        });
        edge("as they were ahead", () -> {
            room(0).due(4, "copy", 0, 0, 0, 1, 4).dueItems(0, 0, 1, 1, 2, 3, 4);
            room(0).due(4, "copy", 0, 1, 0, 0, 4).dueItems(0, 0, 2, 3, 4, 5, 5);
            room(0).due(3, "copy", 0, 0, 0, 2, 3).dueItems(0, 0, 1, 2, 1, 2, 3);
            room(0).due(5, "copy", 0, 0, 0, 0, 5).dueItems(0, 0, 1, 2, 3, 4, 5);
        });
        edge("BAD: SHEETS", () -> {
            badBeyond(0, 7, 0, "copy", 0, 0, 0, 1, 1);
            badBeyond(0, 7, 2, "copy", 0, 0, 0, 1, 1);
            room(0).due(1, "copy", 7, 0, 7, 1, 1).dueItems(7, 0, 3, 3);
        });
        edge("NULL", () -> {
            refused(NULL, "copy", 5, 0, 0, 0, 1);
            refused(NULL, "copy", 0, 0, 6, 0, 1);
            refused(NULL, "copy", 5, 0, 5, 0, 0);
            refused(NULL, "copy", 5, 0, 6, 0, 0);
        });
        edge("STORE", () -> {
            for (int a = 0; a < 3; a++) {
                for (int b = 0; b < 3; b++) {
                    if (a != b) {
                        refused(STORE, "copy", a, 0, b, 0, 1);
                        refused(STORE, "copy", a, 0, b, 0, 0);
                    }
                }
            }
            refused(STORE, "copy", 3, 0, 1, 0, 0);
            done(2, "copy", 1, 0, 7, 0, 2);
        });
    }

    private static void copyBeyond() {
        part = "Promise 4: copy";
        edge("PLACE (i, j, n below 0)", () -> {
            done(1, "copy", 0, 0, 0, 0, 1);
            refused(PLACE, "copy", 0, -1, 0, 0, 1);
            refused(PLACE, "copy", 0, 0, 0, -1, 1);
            refused(PLACE, "copy", 0, 1, 0, 1, -1);
            refused(PLACE, "copy", 0, 5, 0, 5, -5);
            refused(PLACE, "copy", 0, LEAST, 0, 0, 1);
            refused(PLACE, "copy", 0, 0, 0, LEAST, 1);
            refused(PLACE, "copy", 0, 0, 0, 0, LEAST);
            refused(PLACE, "copy", 0, -1, 0, 0, 0);
            refused(PLACE, "copy", 0, 0, 0, -1, 0);
        });
        edge("PLACE (beyond an end): a's", () -> {
            done(5, "copy", 0, 0, 4, 0, 5);
            done(1, "copy", 0, 4, 4, 0, 1);
            refused(PLACE, "copy", 0, 0, 4, 0, 6);
            refused(PLACE, "copy", 0, 4, 4, 0, 2);
            refused(PLACE, "copy", 0, 5, 4, 0, 1);
            refused(PLACE, "copy", 0, 6, 4, 0, 0);
            refused(PLACE, "copy", 3, 0, 4, 0, 1);
            refused(PLACE, "copy", 0, MOST, 4, 0, 0);
        });
        edge("PLACE (beyond an end): b's", () -> {
            done(5, "copy", 4, 35, 0, 0, 5);
            done(1, "copy", 4, 39, 0, 4, 1);
            refused(PLACE, "copy", 4, 0, 0, 0, 6);
            refused(PLACE, "copy", 4, 0, 0, 4, 2);
            refused(PLACE, "copy", 4, 0, 0, 5, 1);
            refused(PLACE, "copy", 4, 0, 0, 6, 0);
            refused(PLACE, "copy", 4, 0, 3, 0, 1);
            refused(PLACE, "copy", 4, 0, 0, MOST, 0);
        });
        edge("PLACE (beyond an end): where a sum wraps around", () -> {
            refused(PLACE, "copy", 0, 1, 4, 1, MOST);
            refused(PLACE, "copy", 0, MOST, 4, 1, 1);
            refused(PLACE, "copy", 0, 1, 4, MOST, 1);
            refused(PLACE, "copy", 0, MOST, 4, MOST, MOST);
            refused(PLACE, "copy", 0, 5, 0, 5, MOST);
        });
        edge("NULL ahead of STORE, PLACE", () -> {
            refused(NULL, "copy", 5, -1, 1, 0, 1);
            refused(NULL, "copy", 1, 0, 5, 0, -1);
            refused(NULL, "copy", 5, 41, 6, 41, 41);
        });
        edge("STORE ahead of PLACE", () -> {
            refused(STORE, "copy", 0, -1, 1, 0, 1);
            refused(STORE, "copy", 0, 0, 1, 4, 1);
            refused(STORE, "copy", 1, 0, 2, 0, -1);
            refused(STORE, "copy", 1, 0, 2, 0, 9);
        });
        edge("BAD ahead of NULL, STORE, PLACE", () -> {
            refused(BAD, "copy", 5, 0, 8, 0, 1);
            refused(BAD, "copy", -1, 0, 6, 0, 1);
            refused(BAD, "copy", 8, -1, 1, 0, -1);
            refused(BAD, "copy", 0, -1, -1, 0, -1);
        });
    }

    private static void drop() {
        part = "Promise 5: drop";
        edge("how many ITEMS it had", () -> {
            done(5, "drop", 0);
            done(0, "drop", 3);
            done(40, "drop", 4);
            done(2, "drop", 7);
        });
        edge("A SHEET is missing from now on", () -> {
            Run run = room(0).due(5, "drop", 0).due(5, "count", 0).due(NULL, "drop", 0).status(1).due(NULL, "set", 0, 0, 1);
            run.due(NULL, "copy", 0, 0, 4, 0, 1).due(NULL, "copy", 4, 0, 0, 0, 1).due(NULL, "map", 0, 0, 0, 1);
            run.due(5, "sheet", 0, 0, 5).dueItems(0, 0, 0, 0, 0, 0, 0).due(6, "count", 0).due(5, "drop", 0);
        });
        edge("BAD", () -> {
            done(5, "drop", 0);
            done(2, "drop", 7);
            badBeyond(0, 7, 0, "drop", 0);
        });
        edge("NULL", () -> {
            refused(NULL, "drop", 5);
            refused(NULL, "drop", 6);
        });
    }

    // ---- promises 6 to 10

    private static void map() {
        part = "Promise 6: map";
        edge("n numbers c(0), c(1), .. (1 to 5)", () -> {
            done(1, "map", 6, 0, 0, 1);
            done(5, "map", 6, 0, 0, 5);
            room(0).due(1, "map", 6, 0, 0, 1).numbers(6, 0, 1).due(9, "count", 1);
            room(0).due(5, "map", 6, 0, 0, 5).numbers(6, 4, 1, 2, 3, 4, 5).due(3, "map", 6, 0, 0, 3).numbers(6, 2, 1, 2, 3);
            room(0).due(2, "map", 6, 0, 3, 2).numbers(6, 1, 4, 5).due(1, "map", 6, 0, 4, 1).numbers(6, 0, 5);
        });
        edge("modulo p (0 to p - 1)", () -> {
            long[] items = {-1, 13, 12, -13, 14, Long.MIN_VALUE, Long.MAX_VALUE, 0, -12, -14};
            Run run = fresh(13).items(0, 2, items);
            for (int i = 0; i < items.length; i++) {
                run.due(1, "map", 0, 0, i, 1).numbers(0, 0, (int) Math.floorMod(items[i], 13L));
            }
            run.due(5, "map", 0, 0, 0, 5).numbers(0, 4, 12, 0, 12, 0, 1);
            Run most = fresh(199).items(0, 2, Long.MAX_VALUE, Long.MIN_VALUE, 198, 199, -199);
            most.due(3, "map", 0, 0, 0, 5).numbers(0, 2, (int) (Long.MAX_VALUE % 199), (int) Math.floorMod(Long.MIN_VALUE, 199L), 198);
        });
        edge("A place has the MAP: in place of what it had", () -> {
            Run run = room(0).due(5, "map", 0, 0, 0, 4).numbers(0, 3, 1, 2, 3, 4).due(8, "count", 1).due(1, "count", 2);
            run.due(1, "map", 0, 0, 0, 1).numbers(0, 0, 1);
        });
        edge("BAD: place", () -> {
            done(1, "map", 0, 0, 0, 1);
            done(1, "map", 9, 0, 0, 1);
            badBeyond(0, 9, 0, "map", 0, 0, 0, 1);
        });
        edge("BAD: SHEET", () -> {
            done(1, "map", 6, 0, 0, 1);
            done(1, "map", 6, 7, 0, 1);
            badBeyond(0, 7, 1, "map", 6, 0, 0, 1);
        });
        edge("BAD: n", () -> {
            done(1, "map", 6, 4, 0, 1);
            done(1, "map", 6, 4, 0, 5);
            badBeyond(1, 5, 3, "map", 6, 4, 0, 1);
        });
        edge("NULL", () -> {
            refused(NULL, "map", 0, 5, 0, 1);
            refused(NULL, "map", 6, 6, 0, 1);
        });
        edge("PLACE", () -> {
            done(5, "map", 6, 0, 0, 5);
            done(1, "map", 6, 0, 4, 1);
            refused(PLACE, "map", 0, 0, -1, 1);
            refused(PLACE, "map", 0, 0, 1, 5);
            refused(PLACE, "map", 6, 0, 5, 1);
            refused(PLACE, "map", 6, 3, 0, 1);
            refused(PLACE, "map", 6, 1, 0, 4);
            refused(PLACE, "map", 6, 0, LEAST, 1);
            refused(PLACE, "map", 6, 0, MOST, 1);
            refused(PLACE, "map", 6, 0, MOST - 3, 5);
            room(0).due(1, "map", 6, 4, 35, 1).due(5, "map", 6, 4, 35, 5).due(PLACE, "map", 6, 4, 36, 5).status(2);
        });
        edge("NULL ahead of PLACE", () -> {
            refused(NULL, "map", 0, 5, -1, 1);
            refused(NULL, "map", 0, 6, 41, 5);
        });
        edge("BAD ahead of NULL, PLACE", () -> {
            refused(BAD, "map", 10, 5, 0, 1);
            refused(BAD, "map", 0, 8, -1, 1);
            refused(BAD, "map", 0, 5, 0, 0);
            refused(BAD, "map", 0, 0, 0, 6);
            refused(BAD, "map", -1, 0, -1, 1);
        });
    }

    private static void plain() {
        part = "Promise 7: plain";
        edge("x x + c (c modulo p)", () -> {
            int[] cs = {0, 1, 12, 13, 14, -1, -13, -14, LEAST, MOST};
            for (int c : cs) {
                done(4, "plain", 6, c);
                room(0).due(4, "plain", 6, c).numbers(6, 2, Math.floorMod(c, 13), 0, 1).due(4, "kind", 6);
            }
            fresh(3).due(4, "plain", 0, -1).numbers(0, 2, 2, 0, 1);
        });
        edge("A place has the PLAIN MAP: in place of what it had", () ->
            room(0).due(4, "plain", 5, 3).numbers(5, 2, 3, 0, 1).due(8, "count", 1).due(3, "count", 5).due(1, "count", 6));
        edge("BAD: place", () -> {
            done(4, "plain", 0, 1);
            done(4, "plain", 9, 1);
            badBeyond(0, 9, 0, "plain", 0, 1);
        });
    }

    private static void turn() {
        part = "Promise 8: turn";
        edge("A place has that of another one TURNED by u, v", () -> {
            done(3, "turn", 6, 3, 2, 3);
            room(0).due(3, "turn", 6, 3, 2, 3).numbers(6, 2, 10, 6, 2).numbers(3, 2, 1, 0, 1).due(9, "count", 1);
            room(0).due(4, "turn", 6, 3, 1, 0).numbers(6, 2, 1, 0, 1);
            room(0).due(1, "turn", 6, 0, 1, 4).numbers(6, 0).due(1, "turn", 6, 8, 2, 1).numbers(6, 0, 6);
            room(0).due(2, "turn", 6, 1, 2, 0).numbers(6, 1, 2, 1);
            room(0).due(5, "turn", 6, 5, 2, 0).numbers(6, 4, 0, 0, 0, 0, 8);
        });
        edge("A place: its own", () -> {
            room(0).due(3, "turn", 3, 3, 2, 3).numbers(3, 2, 10, 6, 2).due(8, "count", 1);
            room(0).due(3, "turn", 3, 3, 2, 3).due(4, "turn", 3, 3, 7, 5).numbers(3, 2, 1, 0, 1);
        });
        edge("u, v (modulo p)", () -> {
            for (long u : new long[] {2, 15, -11, 2 + 13 * 165191049L, 2 - 13 * 165191049L}) {
                for (long v : new long[] {3, 16, -10, 3 + 13 * 165191049L, 3 - 13 * 165191049L}) {
                    room(0).due(3, "turn", 6, 3, u, v).numbers(6, 2, 10, 6, 2);
                }
            }
            room(0).due(3, "turn", 6, 9, 12, 0).numbers(6, 2, 0, 0, 12).due(3, "turn", 6, 9, -1, 13).numbers(6, 2, 0, 0, 12);
            room(0).due(3, "turn", 6, 9, MOST, LEAST);
            room(0).due(3, "turn", 6, 9, LEAST, MOST);
        });
        edge("BAD: u (0 modulo p)", () -> {
            done(4, "turn", 6, 3, 1, 0);
            done(3, "turn", 6, 3, 12, 0);
            done(4, "turn", 6, 3, 14, 0);
            for (long u : new long[] {0, 13, -13, 26, 13 * 165191049L, -13 * 165191049L}) {
                refused(BAD, "turn", 6, 3, u, 1);
                refused(BAD, "turn", 3, 3, u, 0);
            }
        });
        edge("BAD: places", () -> {
            done(4, "turn", 0, 9, 1, 0);
            done(1, "turn", 9, 0, 1, 0);
            badBeyond(0, 9, 0, "turn", 0, 9, 1, 0);
            badBeyond(0, 9, 1, "turn", 0, 9, 1, 0);
        });
        edge("NULL", () -> {
            refused(NULL, "turn", 6, 7, 1, 0);
            refused(NULL, "turn", 0, 6, 1, 0);
            refused(NULL, "turn", 6, 6, 1, 0);
        });
        edge("BAD ahead of NULL", () -> {
            refused(BAD, "turn", 10, 6, 1, 0);
            refused(BAD, "turn", -1, 6, 1, 0);
            refused(BAD, "turn", 0, 6, 13, 0);
            refused(BAD, "turn", 0, 6, 0, 0);
        });
    }

    private static void behind() {
        part = "Promise 9: behind";
        edge("A place has a's MAP of b's", () -> {
            done(5, "behind", 6, 3, 9);
            room(0).due(5, "behind", 6, 3, 9).numbers(6, 4, 1, 0, 0, 0, 1).due(5, "behind", 6, 9, 3).numbers(6, 4, 1, 0, 2, 0, 1);
            room(0).due(3, "behind", 6, 3, 1).numbers(6, 2, 4, 8, 1).due(4, "behind", 6, 1, 3).numbers(6, 2, 5, 0, 1);
            room(0).due(5, "behind", 3, 3, 3).numbers(3, 4, 2, 0, 2, 0, 1).due(8, "count", 1);
            room(0).due(2, "behind", 1, 1, 1).numbers(1, 1, 8, 1);
        });
        edge("its degree 4 at most, FULL: its degree would be above 4", () -> {
            done(5, "behind", 6, 3, 3);
            done(5, "behind", 6, 4, 1);
            done(5, "behind", 6, 5, 1);
            done(5, "behind", 6, 1, 5);
            refused(FULL, "behind", 6, 4, 3);
            refused(FULL, "behind", 6, 3, 4);
            refused(FULL, "behind", 6, 5, 3);
            refused(FULL, "behind", 6, 3, 5);
            refused(FULL, "behind", 4, 4, 4);
            refused(FULL, "behind", 5, 5, 5);
            refused(FULL, "behind", 0, 2, 4);
        });
        edge("its degree 4 at most: FLAT ones", () -> {
            room(0).due(1, "behind", 6, 0, 5).numbers(6, 0, 4).due(1, "behind", 6, 5, 0).numbers(6, 0, 9);
            room(0).due(1, "behind", 6, 8, 5).numbers(6, 0).due(1, "behind", 6, 4, 8).numbers(6, 0, 2);
            room(0).due(1, "behind", 6, 8, 8).numbers(6, 0).due(1, "behind", 6, 0, 0).numbers(6, 0, 4);
        });
        edge("BAD: places", () -> {
            done(1, "behind", 0, 0, 9);
            done(1, "behind", 9, 9, 0);
            for (int which = 0; which < 3; which++) {
                badBeyond(0, 9, which, "behind", 0, 0, 0);
            }
        });
        edge("NULL (a, then b)", () -> {
            refused(NULL, "behind", 0, 6, 0);
            refused(NULL, "behind", 0, 0, 7);
            refused(NULL, "behind", 0, 6, 7);
            refused(NULL, "behind", 6, 6, 6);
        });
        edge("NULL; then FULL", () -> {
            refused(NULL, "behind", 0, 6, 5);
            refused(NULL, "behind", 0, 5, 6);
        });
        edge("BAD ahead of NULL, FULL", () -> {
            refused(BAD, "behind", 10, 6, 0);
            refused(BAD, "behind", 0, 6, -1);
            refused(BAD, "behind", 0, 10, 7);
            refused(BAD, "behind", -1, 5, 5);
        });
    }

    private static void clear() {
        part = "Promise 10: clear";
        edge("1; 0: it was", () -> {
            for (int before = 0; before < STATUSES; before++) {
                room(before).due(1, "clear", 0).status(before).due(0, "clear", 0).status(before);
                room(before).due(0, "clear", 6).status(before).due(1, "clear", 9).status(before);
            }
            quiet(0, "clear", 6);
            quiet(0, "clear", 7);
        });
        edge("A place is empty from now on", () -> {
            Run run = room(0).due(1, "clear", 3).due(7, "count", 1).due(1, "count", 5).due(0, "is", 3, 0);
            run.due(NULL, "kind", 3).due(NULL, "number", 3, 0).due(NULL, "step", 3, 0, 1).due(NULL, "turn", 6, 3, 1, 0);
            run.due(0, "clear", 3).due(4, "plain", 3, 1).due(8, "count", 1).due(1, "clear", 3);
        });
        edge("BAD", () -> badBeyond(0, 9, 0, "clear", 0));
    }

    // ---- promises 11 to 16

    private static void number() {
        part = "Promise 11: number";
        edge("c(k) of a MAP (0 beyond its degree)", () -> {
            asked(4, "number", 0, 0);
            asked(0, "number", 0, 1);
            asked(0, "number", 0, 4);
            asked(1, "number", 5, 4);
            asked(0, "number", 5, 3);
            asked(0, "number", 8, 0);
        });
        edge("of k = -1 its degree", () -> {
            int[] degrees = {0, 1, 2, 2, 3, 4, NULL, NULL, 0, 2};
            for (int place = 0; place < 10; place++) {
                if (degrees[place] >= 0) {
                    asked(degrees[place], "number", place, -1);
                }
            }
        });
        edge("BAD: place", () -> {
            asked(4, "number", 0, 0);
            asked(1, "number", 9, 2);
            badBeyond(0, 9, 0, "number", 0, 0);
        });
        edge("BAD: k (-1 to 4)", () -> badBeyond(-1, 4, 1, "number", 5, 0));
        edge("NULL", () -> {
            refused(NULL, "number", 6, 0);
            refused(NULL, "number", 7, -1);
        });
        edge("BAD ahead of NULL", () -> {
            refused(BAD, "number", 6, -2);
            refused(BAD, "number", 6, 5);
        });
    }

    private static void kind() {
        part = "Promise 12: kind";
        edge("The KIND of a MAP, as it is told", () -> {
            int[] told = {1, 2, 3, 4, 5, 5, NULL, NULL, 1, 4};
            for (int place = 0; place < 10; place++) {
                if (told[place] >= 0) {
                    asked(told[place], "kind", place);
                }
            }
        });
        edge("BAD", () -> badBeyond(0, 9, 0, "kind", 0));
        edge("NULL", () -> {
            refused(NULL, "kind", 6);
            refused(NULL, "kind", 7);
        });
    }

    /** For each place of the room, of which KINDS its MAP is. */
    private static final String[] KINDS_OF = {"01", "02", "03", "034", "05", "05", "", "", "01", "034"};

    private static void is() {
        part = "Promise 13: is";
        edge("the one as which it is told, or one that this is, too: 1, 0", () -> {
            for (int place = 0; place < 10; place++) {
                for (int kind = 0; kind < 6; kind++) {
                    quiet(KINDS_OF[place].contains("" + kind) ? 1 : 0, "is", place, kind);
                }
            }
        });
        edge("of nothing 0", () -> {
            quiet(0, "is", 6, 0);
            quiet(0, "is", 7, 5);
            fresh(13).due(0, "is", 0, 0).status(0);
        });
        edge("BAD: place", () -> badBeyond(0, 9, 0, "is", 0, 0));
        edge("BAD: a KIND (0 .. 5)", () -> badBeyond(0, 5, 1, "is", 3, 0));
        edge("BAD ahead of: of nothing 0", () -> {
            refused(BAD, "is", 6, 6);
            refused(BAD, "is", 6, -1);
        });
    }

    private static void as() {
        part = "Promise 14: as";
        edge("A MAP is taken as one of a KIND (0 .. 5): its degree", () -> {
            int[] degrees = {0, 1, 2, 2, 3, 4, NULL, NULL, 0, 2};
            for (int place = 0; place < 10; place++) {
                for (int kind = 0; kind < 6; kind++) {
                    if (KINDS_OF[place].contains("" + kind)) {
                        asked(degrees[place], "as", place, kind);
                    }
                }
            }
        });
        edge("KIND: it is not that, too", () -> {
            for (int place = 0; place < 10; place++) {
                for (int kind = 0; kind < 6; kind++) {
                    if (!KINDS_OF[place].isEmpty() && !KINDS_OF[place].contains("" + kind)) {
                        refused(KIND, "as", place, kind);
                    }
                }
            }
        });
        edge("BAD: place", () -> badBeyond(0, 9, 0, "as", 0, 0));
        edge("BAD: a KIND (0 .. 5)", () -> badBeyond(0, 5, 1, "as", 3, 0));
        edge("NULL, ahead of KIND", () -> {
            for (int kind = 0; kind < 6; kind++) {
                refused(NULL, "as", 6, kind);
            }
        });
        edge("BAD ahead of NULL", () -> {
            refused(BAD, "as", 6, 6);
            refused(BAD, "as", 7, -1);
        });
    }

    /** An ask in the room: its answer, that status() is 0, and the whole TRACE. */
    private static void dueAsk(long answer, int place, int what, int... trace) {
        for (int before = 0; before < STATUSES; before++) {
            Run run = room(before).due(answer, "ask", place, what).status(0).trace(trace);
            if (!run.told().equals(untouched)) {
                complain("something is changed behind " + shown("ask", place, what));
            }
        }
    }

    private static void ask() {
        part = "Promise 15: ask";
        edge("SIZE: 10 lent to all MAPS: how many POINTS are values of it", () -> {
            dueAsk(1, 0, 0, 10);
            dueAsk(1, 8, 0, 10);
            dueAsk(5, 4, 0, 10);
            dueAsk(4, 5, 0, 10);
        });
        edge("SIZE: 11 of STRAIGHT ones: p", () -> dueAsk(13, 1, 0, 11));
        edge("SIZE: 12 of SQUARE ones: twice what 10 gives (asked once)", () -> dueAsk(14, 2, 0, 12, 10));
        edge("SIZE: 13 of PLAIN ones: what 12 gives, and MARK", () -> {
            dueAsk(14 + 1 + 13 + 4, 3, 0, 13, 12, 10, 22, 21, 20);
            dueAsk(14 + 0 + 13 + 1, 9, 0, 13, 12, 10, 22, 21, 20);
        });
        edge("MARK: 20 lent to all MAPS: c(0)", () -> {
            dueAsk(4, 0, 1, 20);
            dueAsk(4, 1, 1, 20);
            dueAsk(0, 8, 1, 20);
        });
        edge("MARK: 21 of SQUARE ones: what 20 gives, and p", () -> dueAsk(1 + 13, 2, 1, 21, 20));
        edge("MARK: 22 of PLAIN ones: what 21 gives, and the PERIOD of 0", () -> {
            dueAsk(1 + 13 + 4, 3, 1, 22, 21, 20);
            dueAsk(0 + 13 + 1, 9, 1, 22, 21, 20);
            fresh(13).due(4, "plain", 0, 8).due(2, "way", 0, 0, 1).due(3, "way", 0, 1, 1).due(8 + 13 + 2, "ask", 0, 1);
        });
        edge("MARK: 23 of HIGH ones: what 20 gives, and SIZE", () -> {
            dueAsk(2 + 5, 4, 1, 23, 20, 10);
            dueAsk(0 + 4, 5, 1, 23, 20, 10);
        });
        edge("BAD: place", () -> badBeyond(0, 9, 0, "ask", 0, 0));
        edge("BAD: An ASK (0, 1)", () -> badBeyond(0, 1, 1, "ask", 3, 0));
        edge("NULL", () -> {
            for (int before = 0; before < STATUSES; before++) {
                room(before).due(NULL, "ask", 6, 0).status(1);
                room(before).due(NULL, "ask", 7, 1).status(1);
            }
        });
        edge("THE TRACE is empty ahead of it, if it is not BAD", () -> {
            dueAsk(4, 0, 1, 20);
            Run run = room(0).due(NULL, "ask", 6, 0).trace();
            if (!run.told().equals(untouched)) {
                complain("something but THE TRACE is changed");
            }
            room(0).trace(13, 12, 10, 22, 21, 20).due(BAD, "ask", 6, 2).due(BAD, "ask", 10, 0).trace(13, 12, 10, 22, 21, 20);
        });
        edge("BAD ahead of NULL", () -> {
            refused(BAD, "ask", 6, 2);
            refused(BAD, "ask", 7, -1);
        });
    }

    private static void trace() {
        part = "Promise 16: trace";
        edge("Number i of THE TRACE", () -> {
            int[] bodies = {13, 12, 10, 22, 21, 20};
            for (int i = 0; i < bodies.length; i++) {
                quiet(bodies[i], "trace", i);
            }
        });
        edge("NONE", () -> {
            for (long i : new long[] {-1, 6, 7, 15, 16, 17, LEAST, MOST, NONE}) {
                quiet(NONE, "trace", i);
            }
            fresh(13).due(NONE, "trace", 0).status(0);
        });
        edge("(the first 16): of the latest ask alone", () -> {
            Run run = room(0);
            for (int i = 0; i < 20; i++) {
                run.due(32, "ask", 3, 0).trace(13, 12, 10, 22, 21, 20);
            }
        });
    }

    // ---- promises 17 to 22

    private static void step() {
        part = "Promise 17: step";
        edge("f done n times (0 to 1000000000): at the edges of n", () -> {
            asked(6, "step", 3, 6, 0);
            asked(11, "step", 3, 6, 1);
            asked(0, "step", 3, 6, 1000000000 - 1);
            asked(1, "step", 3, 6, 1000000000);
            badBeyond(0, 1000000000, 2, "step", 3, 6, 0);
        });
        edge("f done n times: about the end of the TAIL, and once around", () -> {
            int[] way = {6, 11, 5, 0, 1, 2, 5, 0, 1, 2, 5};
            for (int n = 0; n < way.length; n++) {
                asked(way[n], "step", 3, 6, n);
            }
        });
        edge("f done n times: a TAIL that is no part of the PERIOD", () -> {
            int[] way = {8, 0, 1, 2, 5, 0, 1, 2, 5, 0};
            for (int n = 0; n < way.length; n++) {
                asked(way[n], "step", 3, 8, n);
            }
            asked(5, "step", 3, 8, 1000000000);
            asked(2, "step", 3, 8, 999999999);
        });
        edge("f done n times: a RING of one, of p", () -> {
            asked(10, "step", 3, 3, 1000000000);
            asked(10, "step", 3, 10, 1000000000);
            asked(4, "step", 0, 12, 1);
            asked(12, "step", 0, 12, 0);
            asked(0, "step", 8, 12, 1000000000);
            fresh(199).with(0, 1, 1).due(1000000000 % 199, "step", 0, 0, 1000000000).due(198, "step", 0, 0, 198).due(0, "step", 0, 0, 199);
        });
        edge("BAD: place", () -> badBeyond(0, 9, 0, "step", 0, 0, 1));
        edge("BAD: POINT", () -> {
            asked(1, "step", 3, 0, 1);
            asked(2, "step", 3, 12, 1);
            badBeyond(0, 12, 1, "step", 3, 0, 1);
        });
        edge("NULL", () -> {
            refused(NULL, "step", 6, 0, 1);
            refused(NULL, "step", 7, 12, 0);
        });
        edge("BAD ahead of NULL", () -> {
            refused(BAD, "step", 6, 13, 1);
            refused(BAD, "step", 6, -1, 1);
            refused(BAD, "step", 6, 0, -1);
            refused(BAD, "step", 6, 0, 1000000001);
        });
    }

    private static void way() {
        part = "Promise 18: way";
        edge("0 TAIL, 1 PERIOD, 2 RING, 3 how many POINTS f brings to it", () -> {
            int[][] due = {{0, 4, 0, 2}, {0, 4, 0, 1}, {0, 4, 0, 2}, {1, 1, 2, 0}, {0, 1, 1, 2}, {0, 4, 0, 2}, {2, 4, 0, 0},
                {2, 4, 0, 0}, {1, 4, 0, 0}, {1, 1, 1, 0}, {0, 1, 2, 2}, {1, 4, 0, 2}, {1, 4, 0, 0}};
            for (int x = 0; x < 13; x++) {
                for (int what = 0; what < 4; what++) {
                    asked(due[x][what], "way", 3, x, what);
                }
            }
        });
        edge("TAIL, PERIOD: the least and the greatest", () -> {
            for (int p : new int[] {3, 199}) {
                Run run = fresh(p).with(0, 1, 1).with(1, 0).with(2, 0, 1);
                run.due(0, "way", 0, p - 1, 0).due(p, "way", 0, p - 1, 1).due(0, "way", 0, p - 1, 2).due(1, "way", 0, 0, 3);
                run.due(1, "way", 1, p - 1, 0).due(1, "way", 1, p - 1, 1).due(p, "way", 1, 0, 3).due(0, "way", 1, p - 1, 3);
                run.due(0, "way", 2, p - 1, 0).due(1, "way", 2, p - 1, 1).due(p - 1, "way", 2, p - 1, 2).due(0, "way", 1, 0, 0);
            }
        });
        edge("BAD: place", () -> badBeyond(0, 9, 0, "way", 0, 0, 0));
        edge("BAD: POINT", () -> badBeyond(0, 12, 1, "way", 3, 0, 0));
        edge("BAD: what", () -> badBeyond(0, 3, 2, "way", 3, 0, 0));
        edge("NULL", () -> {
            refused(NULL, "way", 6, 0, 0);
            refused(NULL, "way", 7, 12, 3);
        });
        edge("BAD ahead of NULL", () -> {
            refused(BAD, "way", 6, 13, 0);
            refused(BAD, "way", 6, -1, 0);
            refused(BAD, "way", 6, 0, 4);
            refused(BAD, "way", 6, 0, -1);
        });
    }

    private static void ring() {
        part = "Promise 19: ring";
        edge("0 how many POINTS, 1 its least POINT, 2 its MULTIPLIER, 3 how many POINTS come to it", () -> {
            int[][] due = {{4, 0, 0, 9}, {1, 4, 8, 2}, {1, 10, 7, 2}};
            for (int i = 0; i < 3; i++) {
                for (int what = 0; what < 4; what++) {
                    asked(due[i][what], "ring", 3, i, what);
                }
            }
        });
        edge("RINGS are numbered by their least POINTS, rising", () -> {
            Run run = fresh(13).with(0, 2, 12).due(7, "all", 0, 0);
            int[] least = {0, 1, 3, 4, 5, 6, 7};
            int[] points = {2, 1, 2, 2, 2, 2, 2};
            for (int i = 0; i < 7; i++) {
                run.due(least[i], "ring", 0, i, 1).due(points[i], "ring", 0, i, 0);
            }
        });
        edge("MULTIPLIER: the product of f' over its POINTS, modulo p", () -> {
            fresh(13).with(0, 0, 1).due(1, "ring", 0, 12, 2).with(0, 0, 12).due(12, "ring", 0, 0, 2).due(1, "ring", 0, 1, 2);
            fresh(13).with(0, 1, 1).due(1, "ring", 0, 0, 2).with(0, 5).due(0, "ring", 0, 0, 2).with(0, 0).due(0, "ring", 0, 0, 2);
            fresh(13).with(0, 0, 0, 0, 0, 1).due(0, "ring", 0, 0, 2).due(4, "ring", 0, 1, 2);
            fresh(3).with(0, 0, 0, 0, 1).due(0, "ring", 0, 0, 2).due(0, "ring", 0, 1, 2).due(0, "ring", 0, 2, 2);
            fresh(199).with(0, 1, 198).due(1, "ring", 0, 0, 2).with(1, 0, 198).due(198, "ring", 1, 0, 2);
        });
        edge("Of RING i: of one MAP behind another", () -> {
            Run run = room(0);
            for (int round = 0; round < 3; round++) {
                run.due(9, "ring", 3, 0, 3).due(8, "ring", 3, 1, 2).due(13, "ring", 0, 0, 3).due(4, "ring", 0, 0, 1).due(NONE, "ring", 0, 1, 0);
                run.due(13, "ring", 1, 0, 0).due(13, "ring", 1, 0, 3).due(1, "ring", 9, 0, 3).due(NONE, "ring", 9, 3, 0);
            }
            run.due(4, "plain", 3, 0).due(1, "ring", 3, 0, 3).due(2, "ring", 3, 2, 0).due(8, "ring", 3, 2, 3);
        });
        edge("NONE: there are not so many (i below 0, too)", () -> {
            for (int what = 0; what < 4; what++) {
                for (long i : new long[] {3, -1, 13, LEAST, MOST, NONE}) {
                    asked(NONE, "ring", 3, i, what);
                }
            }
            fresh(199).with(0, 0, 1).due(198, "ring", 0, 198, 1).due(NONE, "ring", 0, 199, 1).status(0);
            room(0).due(1, "ring", 0, 0, 0).due(NONE, "ring", 0, 1, 0);
        });
        edge("BAD: place", () -> badBeyond(0, 9, 0, "ring", 0, 0, 0));
        edge("BAD: what", () -> badBeyond(0, 3, 2, "ring", 3, 0, 0));
        edge("NULL", () -> {
            refused(NULL, "ring", 6, 0, 0);
            refused(NULL, "ring", 7, 0, 3);
        });
        edge("NULL ahead of NONE", () -> {
            refused(NULL, "ring", 6, -1, 0);
            refused(NULL, "ring", 6, 13, 0);
        });
        edge("BAD ahead of NULL, NONE", () -> {
            refused(BAD, "ring", 6, 0, 4);
            refused(BAD, "ring", 3, -1, 4);
            refused(BAD, "ring", 3, 99, -1);
            refused(BAD, "ring", -1, -1, 0);
        });
    }

    private static void all() {
        part = "Promise 20: all";
        edge("0 RINGS, 1 POINTS on RINGS, 2 longest RING, 3 longest TAIL, 4 POINTS that are no values, 5 STILL RINGS", () -> {
            int[] due = {3, 6, 4, 2, 6, 1};
            for (int what = 0; what < 6; what++) {
                asked(due[what], "all", 3, what);
            }
        });
        edge("the least and the greatest", () -> {
            int[][] due = {{1, 199, 199, 0, 0, 0}, {1, 1, 1, 1, 198, 1}, {199, 199, 1, 0, 0, 0}};
            Run run = fresh(199).with(0, 1, 1).with(1, 198).with(2, 0, 1);
            for (int place = 0; place < 3; place++) {
                for (int what = 0; what < 6; what++) {
                    run.due(due[place][what], "all", place, what);
                }
            }
            fresh(3).with(0, 1, 1, 2).due(1, "way", 0, 0, 0).due(0, "way", 0, 1, 0).due(0, "way", 0, 2, 0).due(1, "all", 0, 3);
        });
        edge("A RING is STILL, if that is 0", () -> {
            fresh(3).with(0, 0, 0, 0, 1).due(3, "all", 0, 5).with(0, 0, 2).due(0, "all", 0, 5).with(0, 0).due(1, "all", 0, 5);
            fresh(13).with(0, 0, 0, 1).due(1, "all", 0, 5).with(0, 2, 0, 1).due(0, "all", 0, 5);
        });
        edge("BAD: place", () -> badBeyond(0, 9, 0, "all", 0, 0));
        edge("BAD: what", () -> badBeyond(0, 5, 1, "all", 3, 0));
        edge("NULL", () -> {
            refused(NULL, "all", 6, 0);
            refused(NULL, "all", 7, 5);
        });
        edge("BAD ahead of NULL", () -> {
            refused(BAD, "all", 6, 6);
            refused(BAD, "all", 6, -1);
        });
    }

    private static void alike() {
        part = "Promise 21: alike";
        edge("for each TAIL and PERIOD there are as many POINTS with them: 1, 0", () -> {
            asked(1, "alike", 3, 3);
            asked(1, "alike", 0, 8);
            asked(0, "alike", 3, 9);
            asked(0, "alike", 0, 1);
            asked(0, "alike", 1, 0);
            room(0).due(3, "turn", 6, 3, 2, 3).due(1, "alike", 3, 6).due(1, "alike", 6, 3).status(0);
        });
        edge("as many POINTS: one PERIOD more or less", () -> {
            Run run = fresh(13).with(0, 0, 1).with(1, 0, 12).with(2, 1, 1).with(3, 2, 1);
            run.due(0, "alike", 0, 1).due(0, "alike", 1, 0).due(0, "alike", 1, 2).due(1, "alike", 2, 3).due(0, "alike", 0, 2);
        });
        edge("as many POINTS: the same PERIODS, other TAILS", () -> {
            Run run = fresh(3).with(0, 0, 0, 1).with(1, 1, 0, 2).with(2, 1).with(3, 1, 1, 2).with(4, 1, 2, 1);
            run.due(1, "alike", 0, 3).due(0, "alike", 0, 4).due(0, "alike", 0, 2).due(0, "alike", 2, 0).due(0, "alike", 1, 2);
        });
        edge("BAD: places", () -> {
            asked(1, "alike", 9, 9);
            badBeyond(0, 9, 0, "alike", 0, 0);
            badBeyond(0, 9, 1, "alike", 0, 0);
        });
        edge("NULL (a, then b)", () -> {
            refused(NULL, "alike", 6, 0);
            refused(NULL, "alike", 0, 6);
            refused(NULL, "alike", 6, 6);
            refused(NULL, "alike", 6, 7);
        });
        edge("BAD ahead of NULL", () -> {
            refused(BAD, "alike", 6, 10);
            refused(BAD, "alike", -1, 6);
        });
    }

    private static void round() {
        part = "Promise 22: round";
        edge("Number k of R(n) (0 beyond its degree)", () -> {
            int[][] rows = {{1, 12, 1}, {2, 1, 1}, {5, 4, 7, 3, 4, 1, 1}, {0, 6, 4, 9, 1, 8, 7, 4, 5, 1, 6, 0, 1}};
            for (int n = 1; n <= 4; n++) {
                for (int k = 0; k < rows[n - 1].length; k++) {
                    asked(rows[n - 1][k], "round", 3, n, k);
                }
                asked(0, "round", 3, n, rows[n - 1].length);
                asked(0, "round", 3, n, 64);
                asked(0, "round", 3, n, 65);
                asked(0, "round", 3, n, MOST);
            }
        });
        edge("of k = -1 its degree", () -> {
            int[] degrees = {2, 2, 6, 12, 30, 54};
            for (int n = 1; n <= 6; n++) {
                asked(degrees[n - 1], "round", 3, n, -1);
                asked(1, "round", 3, n, degrees[n - 1]);
                asked(0, "round", 3, n, degrees[n - 1] + 1);
            }
            asked(4, "round", 5, 1, -1);
            asked(60, "round", 5, 3, -1);
            asked(24, "round", 4, 3, -1);
        });
        edge("R(n), c(k) of the highest power not being 1", () -> {
            int[] second = {8, 12, 9, 11, 8, 0, 8, 0};
            Run run = fresh(13).with(0, 1, 2, 0, 5).due(6, "round", 0, 2, -1).due(24, "round", 0, 3, -1);
            for (int k = 0; k < second.length; k++) {
                run.due(second[k], "round", 0, 2, k);
            }
            run.due(3, "round", 0, 3, 0).due(9, "round", 0, 3, 1).due(1, "round", 0, 3, 2).due(3, "round", 0, 3, 3);
            fresh(13).with(0, 0, 0, 12).due(1, "round", 0, 2, 0).due(12, "round", 0, 2, 1).due(1, "round", 0, 2, 2).due(12, "round", 0, 1, 2);
        });
        edge("R(n): of one MAP behind another", () -> {
            Run run = room(0).due(54, "round", 3, 6, -1).due(2, "round", 3, 2, 0).due(1, "round", 9, 2, 0).due(1, "round", 9, 2, 1);
            run.due(60, "round", 5, 3, -1).due(0, "round", 5, 1, 0).due(12, "round", 5, 1, 1).due(1, "round", 3, 1, 0).due(2, "round", 3, 2, 0);
            run.due(4, "plain", 3, 2).due(2, "round", 3, 1, 0).due(3, "round", 3, 2, 0).due(6, "round", 3, 3, -1);
        });
        edge("R(1) is f less x itself", () -> {
            fresh(13).with(0, 0, 0, 1).due(0, "round", 0, 1, 0).due(12, "round", 0, 1, 1).due(1, "round", 0, 1, 2);
            fresh(13).with(0, 0, 1, 1).due(0, "round", 0, 1, 0).due(0, "round", 0, 1, 1).due(1, "round", 0, 1, 2);
            fresh(13).with(0, 5, 4, 3, 2, 7).due(5, "round", 0, 1, 0).due(3, "round", 0, 1, 1).due(7, "round", 0, 1, 4);
        });
        edge("BAD: place", () -> {
            asked(12, "round", 9, 1, 1);
            badBeyond(0, 9, 0, "round", 3, 1, 0);
        });
        edge("BAD: n (1 to 6)", () -> badBeyond(1, 6, 1, "round", 3, 1, -1));
        edge("BAD: k below -1", () -> {
            asked(2, "round", 3, 1, -1);
            refused(BAD, "round", 3, 1, -2);
            refused(BAD, "round", 3, 1, LEAST);
        });
        edge("NULL", () -> {
            refused(NULL, "round", 6, 1, 0);
            refused(NULL, "round", 7, 6, -1);
        });
        edge("KIND: FLAT, STRAIGHT", () -> {
            for (int n = 1; n <= 6; n++) {
                refused(KIND, "round", 0, n, 0);
                refused(KIND, "round", 1, n, -1);
                refused(KIND, "round", 8, n, MOST);
                asked(1, "round", 3, 1, 2);
            }
        });
        edge("FULL: the degree to the power n is above 64", () -> {
            asked(1, "round", 2, 6, 54);
            asked(0, "round", 9, 6, 64);
            asked(1, "round", 4, 3, 24);
            asked(1, "round", 5, 3, 60);
            for (int n = 4; n <= 6; n++) {
                refused(FULL, "round", 4, n, 0);
                refused(FULL, "round", 5, n, -1);
            }
            refused(FULL, "round", 5, 4, MOST);
        });
        edge("BAD ahead of NULL, KIND, FULL", () -> {
            refused(BAD, "round", 6, 7, 0);
            refused(BAD, "round", 6, 1, -2);
            refused(BAD, "round", 0, 0, 0);
            refused(BAD, "round", 1, 1, -2);
            refused(BAD, "round", 4, 4, -2);
            refused(BAD, "round", 5, 7, 0);
        });
    }

    // ---- promises 23 to 26

    private static void fraction() {
        part = "Promise 23: fraction";
        edge("How many fractions RETURN (i = NONE)", () -> {
            for (int what = 0; what < 3; what++) {
                quiet(3, "fraction", 0, 1, NONE, what);
                quiet(8, "fraction", -29, 4, NONE, what);
                quiet(0, "fraction", 1, 1, NONE, what);
            }
            quiet(NONE, "fraction", 0, 1, NONE + 1, 0);
            quiet(NONE, "fraction", 0, 1, NONE - 1, 0);
        });
        edge("of the i-th one: 0 n, 1 TAIL, 2 PERIOD; listed by rising n", () -> {
            int[][] due = {{-7, 0, 3}, {-5, 1, 3}, {-3, 2, 3}, {-1, 0, 3}, {1, 1, 3}, {3, 2, 3}, {5, 0, 3}, {7, 1, 3}};
            for (int i = 0; i < 8; i++) {
                for (int what = 0; what < 3; what++) {
                    quiet(due[i][what], "fraction", -29, 4, i, what);
                }
            }
        });
        edge("How many fractions RETURN: of one a, d behind another", () -> {
            Run run = fresh(13);
            for (int round = 0; round < 3; round++) {
                run.due(3, "fraction", 0, 1, NONE, 0).due(0, "fraction", 1, 1, NONE, 0).due(NONE, "fraction", 1, 1, 0, 0);
                run.due(2, "fraction", 1, 2, NONE, 0).due(-1, "fraction", 1, 2, 0, 0).due(8, "fraction", -29, 4, NONE, 0);
                run.due(3, "fraction", -1, 1, NONE, 0).due(2, "fraction", -1, 1, 0, 2).due(1, "fraction", 0, 1, 0, 2);
            }
        });
        edge("fractions farthest out", () -> {
            quiet(4, "fraction", -9890, 29, NONE, 0);
            quiet(-115, "fraction", -9890, 29, 0, 0);
            quiet(1, "fraction", -9890, 29, 0, 1);
            quiet(115, "fraction", -9890, 29, 3, 0);
            quiet(0, "fraction", -9890, 29, 3, 1);
            quiet(-100, "fraction", -9900, 1, 0, 0);
            quiet(100, "fraction", -9900, 1, 3, 0);
        });
        edge("NONE: there are not so many (another i below 0, too)", () -> {
            quiet(1, "fraction", 0, 1, 2, 0);
            for (long i : new long[] {3, -1, LEAST, MOST, NONE + 1, NONE - 1}) {
                quiet(NONE, "fraction", 0, 1, i, 0);
                quiet(NONE, "fraction", 0, 1, i, 2);
            }
            quiet(NONE, "fraction", 1, 1, 0, 0);
        });
        edge("BAD: a (-10000 to 10000)", () -> {
            quiet(0, "fraction", 10000, 1, NONE, 0);
            quiet(0, "fraction", -10000, 1, NONE, 0);
            quiet(0, "fraction", 10000, 29, NONE, 0);
            quiet(0, "fraction", -10000, 29, NONE, 0);
            badBeyond(-10000, 10000, 0, "fraction", 0, 1, NONE, 0);
        });
        edge("BAD: d (1 to 30)", () -> {
            quiet(3, "fraction", 0, 1, NONE, 0);
            quiet(4, "fraction", 221, 30, NONE, 0);
            badBeyond(1, 30, 1, "fraction", 1, 1, NONE, 0);
        });
        edge("BAD: a, d (a common divisor)", () -> {
            quiet(2, "fraction", 1, 2, NONE, 0);
            for (int[] pair : new int[][] {{0, 2}, {0, 30}, {2, 2}, {-2, 2}, {2, 4}, {4, 2}, {-9, 3}, {15, 25}, {29, 29}, {-10000, 30}}) {
                refused(BAD, "fraction", pair[0], pair[1], NONE, 0);
                refused(BAD, "fraction", pair[0], pair[1], 0, 0);
            }
        });
        edge("BAD: what", () -> {
            badBeyond(0, 2, 3, "fraction", 0, 1, 0, 0);
            badBeyond(0, 2, 3, "fraction", 0, 1, NONE, 0);
        });
        edge("BAD ahead of NONE", () -> {
            refused(BAD, "fraction", 0, 1, -1, 3);
            refused(BAD, "fraction", 0, 1, 99, -1);
            refused(BAD, "fraction", 0, 1, MOST, 3);
            refused(BAD, "fraction", 0, 2, MOST, 0);
            refused(BAD, "fraction", 0, 31, -1, 0);
        });
    }

    private static void next() {
        part = "Promise 24: next";
        edge("q(n by d) as what by d: that number", () -> {
            quiet(-7, "next", -29, 4, -1);
            quiet(5, "next", -29, 4, -7);
            quiet(-1, "next", -29, 4, 5);
            quiet(1, "next", 1, 2, 1);
            quiet(0, "next", 0, 1, 0);
            quiet(0, "next", -9, 1, 3);
        });
        edge("n -1000 to 1000", () -> {
            quiet(1010000, "next", 10000, 1, 1000);
            quiet(990000, "next", -10000, 1, -1000);
            quiet(333337, "next", 11, 3, 1000);
            quiet(333337, "next", 11, 3, -1000);
            badBeyond(-1000, 1000, 2, "next", 0, 1, 0);
        });
        edge("NONE: in lowest terms its lower number is not d", () -> {
            quiet(NONE, "next", 1, 3, 1);
            quiet(NONE, "next", 3, 2, 1);
            quiet(NONE, "next", -1, 3, 1);
            quiet(NONE, "next", -25, 2, 5);
            quiet(NONE, "next", -1, 30, 1);
            quiet(5, "next", 1, 2, 3);
        });
        edge("BAD: a", () -> {
            quiet(10000, "next", 10000, 1, 0);
            quiet(-10000, "next", -10000, 1, 0);
            badBeyond(-10000, 10000, 0, "next", 0, 1, 0);
        });
        edge("BAD: d", () -> {
            quiet(2, "next", 1, 1, 1);
            quiet(17, "next", 221, 30, 17);
            badBeyond(1, 30, 1, "next", 1, 1, 1);
        });
        edge("BAD: a, d (a common divisor)", () -> {
            for (int[] pair : new int[][] {{0, 2}, {2, 2}, {-3, 3}, {3, 6}, {29, 29}, {-10000, 30}}) {
                refused(BAD, "next", pair[0], pair[1], 1);
            }
        });
        edge("BAD: n (one with d)", () -> {
            quiet(1, "next", 1, 1, 0);
            refused(BAD, "next", 1, 2, 0);
            refused(BAD, "next", 1, 2, 2);
            refused(BAD, "next", 1, 2, -2);
            refused(BAD, "next", 1, 30, 25);
            refused(BAD, "next", 1, 30, -1000);
            refused(BAD, "next", 1, 29, 29 * 34);
        });
    }

    private static void count() {
        part = "Promise 25: count";
        edge("0 SHEETS, 1 MAPS, 2 FLAT, 3 STRAIGHT, 4 SQUARE (PLAIN, too), 5 PLAIN, 6 HIGH, 7 p", () -> {
            int[] due = {6, 8, 2, 1, 3, 2, 2, 13};
            for (int what = 0; what < 8; what++) {
                quiet(due[what], "count", what);
            }
        });
        edge("How many: none, and as many as can be", () -> {
            Run run = fresh(13);
            for (int i = 0; i < 8; i++) {
                run.due(i, "count", 0).due(0, "sheet", i, 0, 0);
            }
            for (int i = 0; i < 10; i++) {
                run.due(i, "count", 1).due(i, "count", 5).due(4, "plain", i, 1);
            }
            run.due(8, "count", 0).due(10, "count", 1).due(10, "count", 4).due(10, "count", 5).due(0, "count", 6);
            run.due(4, "plain", 9, 1).due(0, "sheet", 7, 0, 0).due(10, "count", 1).due(8, "count", 0);
        });
        edge("BAD", () -> badBeyond(0, 7, 0, "count", 0));
    }

    private static void status() {
        part = "Promise 26: status";
        edge("0: there was none", () -> fresh(13).status(0).status(0).due(13, "count", 7).due(1, "next", 1, 1, 0).status(0));
        edge("the number of its FINDING", () -> {
            Run run = room(0).due(NULL, "drop", 5).status(1).due(PLACE, "set", 0, 5, 1).status(2).due(KIND, "as", 0, 5).status(3);
            run.due(SIZE, "sheet", 0, 0, -1).status(4).due(STORE, "copy", 0, 0, 1, 0, 0).status(5).status(5);
        });
        edge("0: it had none", () -> {
            Object[][] calls = {{"sheet", 0L, 0L, 1L}, {"set", 0L, 0L, 1L}, {"copy", 0L, 0L, 0L, 0L, 0L}, {"drop", 0L},
                {"map", 0L, 0L, 0L, 1L}, {"plain", 0L, 1L}, {"turn", 0L, 0L, 1L, 0L}, {"behind", 0L, 0L, 0L},
                {"number", 0L, 0L}, {"kind", 0L}, {"as", 0L, 0L}, {"ask", 0L, 0L}, {"step", 0L, 0L, 0L},
                {"way", 0L, 0L, 0L}, {"ring", 0L, 0L, 0L}, {"ring", 0L, 9L, 0L}, {"all", 0L, 0L}, {"alike", 0L, 0L}, {"round", 3L, 1L, 0L}};
            for (Object[] call : calls) {
                for (int before = 0; before < STATUSES; before++) {
                    Run run = room(before);
                    run.call((String) call[0], Arrays.stream(call).skip(1).mapToLong(one -> (Long) one).toArray());
                    run.status(0);
                }
            }
        });
        edge("(but clear(), is())", () -> {
            for (int before = 0; before < STATUSES; before++) {
                room(before).due(1, "clear", 0).status(before).due(0, "clear", 0).status(before);
                room(before).due(1, "is", 0, 0).status(before).due(0, "is", 6, 0).status(before);
            }
        });
        edge("that was not BAD, FULL", () -> {
            for (int before = 0; before < STATUSES; before++) {
                room(before).due(BAD, "kind", 10).status(before).due(BAD, "drop", 8).status(before);
                room(before).due(FULL, "behind", 0, 5, 5).status(before).due(FULL, "round", 5, 4, 0).status(before);
            }
        });
        edge("a call with a SHEET or a place: others leave it", () -> {
            for (int before = 0; before < STATUSES; before++) {
                Run run = room(before).due(6, "count", 0).due(BAD, "count", 8).status(before);
                run.due(13, "trace", 0).due(NONE, "trace", 6).status(before);
                run.due(3, "fraction", 0, 1, NONE, 0).due(NONE, "fraction", 0, 1, 3, 0).due(BAD, "fraction", 0, 2, 0, 0).status(before);
                run.due(1, "next", 0, 1, 1).due(NONE, "next", 1, 3, 1).due(BAD, "next", 0, 2, 1).status(before);
            }
        });
    }

    public static void main(String[] args) {
        for (Method method : ReturnPoints.class.getDeclaredMethods()) {
            CALLS.put(method.getName(), method);
        }
        dueUntouched(room(0), "nothing");
        termsOfSheets();
        termsOfKinds();
        termsOfFindings();
        newObject();
        sheet();
        set();
        copy();
        copyBeyond();
        drop();
        map();
        plain();
        turn();
        behind();
        clear();
        number();
        kind();
        is();
        as();
        ask();
        trace();
        step();
        way();
        ring();
        all();
        alike();
        round();
        fraction();
        next();
        count();
        status();
        System.out.println(tests + " sentences of the document" + (wrong == 0 ? ": all hold" : ", " + wrong + " answers are not as due"));
        if (wrong != 0) {
            System.exit(1);
        }
    }
}
