import com.sun.management.ThreadMXBean;
import java.io.IOException;
import java.lang.management.ManagementFactory;
import java.lang.reflect.Field;
import java.lang.reflect.Modifier;
import java.nio.file.Files;
import java.nio.file.Path;
import java.util.ArrayList;
import java.util.HashMap;
import java.util.List;
import java.util.Map;
import java.util.Set;
import java.util.TreeMap;
import java.util.TreeSet;
import java.util.regex.Matcher;
import java.util.regex.Pattern;

/** Sentences of LANGUAGE.md, each by its rule and its words, as far as the source or a run shows them. */
public final class RulesTest {
    private static final Path SOURCE = Path.of("src/main/java/ReturnPoints.java");
    private static final int DEEPEST = 8;
    private static final int MOST_CALLS = 512;
    private static final long MOST_BYTES = 1000000;

    private static final Set<String> NUMBERS = Set.of("int", "long", "short", "byte", "char", "double", "float");
    private static final Set<String> OF_NUMBERS = Set.of("compare", "max", "min", "abs", "bitCount", "floorDiv",
        "floorMod", "signum", "numberOfLeadingZeros", "numberOfTrailingZeros", "highestOneBit", "lowestOneBit");

    private static int wrong = 0;

    /** What is seen against the sentence; nothing, if it holds. */
    private static void holds(String sentence, Set<String> against) {
        System.out.println((against.isEmpty() ? "  holds " : "  BROKEN ") + sentence);
        for (String one : against) {
            wrong++;
            System.out.println("    " + one);
        }
    }

    private static String code() throws IOException {
        return Pattern.compile("/\\*.*?\\*/|//[^\n]*", Pattern.DOTALL).matcher(Files.readString(SOURCE)).replaceAll(" ");
    }

    private static List<Class<?>> classes() {
        List<Class<?>> classes = new ArrayList<>(List.of(ReturnPoints.class.getDeclaredClasses()));
        classes.add(ReturnPoints.class);
        return classes;
    }

    // ---- rules 3 and 5: the fields

    private static void fields() {
        Set<String> types = new TreeSet<>();
        Set<String> statics = new TreeSet<>();
        for (Class<?> one : classes()) {
            for (Field field : one.getDeclaredFields()) {
                Class<?> type = field.getType();
                if (Modifier.isStatic(field.getModifiers())) {
                    boolean fine = type == int.class || type == long.class || type == boolean.class || type == char.class;
                    if (!fine || !Modifier.isFinal(field.getModifiers())) {
                        statics.add(field.toString());
                    }
                }
                int dimensions = 0;
                while (type.isArray()) {
                    type = type.getComponentType();
                    dimensions++;
                }
                boolean own = type.getEnclosingClass() == ReturnPoints.class;
                if (!own && !NUMBERS.contains(type.getName()) && type != boolean.class
                        || dimensions > (NUMBERS.contains(type.getName()) ? 2 : 1)) {
                    types.add(field.toString());
                }
            }
        }
        holds("Rule 3 | arrays of these and of your own classes, of one dimension, and arrays of two dimensions of numbers",
            types);
        holds("Rule 5 | Static fields are final: constants of int, long, boolean, char", statics);
    }

    // ---- rule 4: the library

    private static void library(String code) {
        Set<String> fills = new TreeSet<>();
        Matcher call = Pattern.compile("\\bArrays\\.(\\w+)\\(([^,;]*)").matcher(code);
        while (call.find()) {
            String row = call.group(2).replaceAll("\\[.*?\\]", "").replaceAll(".*\\.", "").strip();
            if (!Set.of("copyOf", "copyOfRange", "fill").contains(call.group(1)) || !isOfNumbers(code, row)) {
                fills.add(call.group());
            }
        }
        holds("Rule 4 | Arrays.copyOf, Arrays.copyOfRange, Arrays.fill over arrays of numbers", fills);
        Set<String> functions = new TreeSet<>();
        Matcher function = Pattern.compile("\\b(Math|Integer|Long)\\.(\\w+)").matcher(code);
        while (function.find()) {
            if (!OF_NUMBERS.contains(function.group(2))) {
                functions.add(function.group());
            }
        }
        holds("Rule 4 | the static functions of Integer, Long and Math over int and long", functions);
    }

    /** Every row of that name is declared with numbers. */
    private static boolean isOfNumbers(String code, String row) {
        Matcher declared = Pattern.compile("\\b(\\w+)(?:\\[\\])+ " + Pattern.quote(row) + "\\b").matcher(code);
        boolean found = false;
        while (declared.find()) {
            found = true;
            if (!NUMBERS.contains(declared.group(1))) {
                return false;
            }
        }
        return found;
    }

    // ---- rules 8 and 11: calls within calls; methods of one name are taken as one, so that none is missed

    private static Map<String, Set<String>> callsOf(String code) {
        Map<String, String> bodies = new TreeMap<>();
        Matcher head = Pattern.compile("(?m)^(?: {4}| {8})(?!return|new|else)(?:[\\w\\[\\]]+ )*(\\w+)\\([^)]*\\) \\{$").matcher(code);
        while (head.find()) {
            if (!Set.of("if", "for", "while", "switch").contains(head.group(1))) {
                bodies.merge(head.group(1), bodyFrom(code, head.end()), String::concat);
            }
        }
        Map<String, Set<String>> calls = new TreeMap<>();
        for (Map.Entry<String, String> body : bodies.entrySet()) {
            Set<String> called = new TreeSet<>();
            Matcher name = Pattern.compile("\\b(\\w+)\\(").matcher(body.getValue());
            while (name.find()) {
                if (bodies.containsKey(name.group(1))) {
                    called.add(name.group(1));
                }
            }
            calls.put(body.getKey(), called);
        }
        return calls;
    }

    private static String bodyFrom(String code, int from) {
        int open = 1;
        int at = from;
        while (open > 0) {
            open += code.charAt(at) == '{' ? 1 : code.charAt(at) == '}' ? -1 : 0;
            at++;
        }
        return code.substring(from, at);
    }

    private static int depth(Map<String, Set<String>> calls, String name, List<String> way, Map<String, Integer> known,
            Set<String> rings) {
        if (way.contains(name)) {
            rings.add(name + " within itself: " + way);
            return 0;
        }
        if (known.containsKey(name)) {
            return known.get(name);
        }
        way.add(name);
        int deepest = 0;
        for (String called : calls.get(name)) {
            deepest = Math.max(deepest, depth(calls, called, way, known, rings));
        }
        way.remove(way.size() - 1);
        known.put(name, deepest + 1);
        return deepest + 1;
    }

    private static void calls(String code) {
        Map<String, Set<String>> calls = callsOf(code);
        Set<String> rings = new TreeSet<>();
        Set<String> deep = new TreeSet<>();
        Map<String, Integer> known = new HashMap<>();
        for (String name : calls.keySet()) {
            int depth = depth(calls, name, new ArrayList<>(), known, rings);
            if (depth > DEEPEST) {
                deep.add(name + " goes " + depth + " deep");
            }
        }
        if (calls.size() < 60 || !calls.get("ask").contains("sizeAsked")) {
            deep.add("the methods are not found: " + calls);
        }
        holds("Rule 8 | a method that calls itself: none here", rings);
        holds("Rule 11 | calls that are no recursion go at most eight deep", deep);
    }

    // ---- rule 12: what is made

    /** What the dearest calls make, as many of them as an object is for. */
    private static void dearestCalls(int what) {
        ReturnPoints x = new ReturnPoints(199);
        x.plain(0, -1);
        x.sheet(7, 2, 5);
        for (int call = 3; call < MOST_CALLS; call++) {
            switch (what) {
                case 0: x.sheet(call % 8, 2, 40); break;
                case 1: x.turn(0, 0, call, call); break;
                case 2: x.behind(call % 2 + 1, 0, 0); break;
                case 3: x.map(call % 10, 7, 0, 5); break;
                case 4: x.plain(0, call); x.round(0, 6, 5); break;
                case 5: x.fraction(call, 1, 0, 0); break;
                case 6: x.plain(0, call); x.alike(0, 1); break;
                default: x.plain(call % 3, call); x.ask(call % 3, 0);
            }
        }
    }

    private static void room() {
        ThreadMXBean thread = (ThreadMXBean) ManagementFactory.getThreadMXBean();
        Set<String> dear = new TreeSet<>();
        for (int what = 0; what < 8; what++) {
            dearestCalls(what);
            long ahead = thread.getCurrentThreadAllocatedBytes();
            dearestCalls(what);
            long made = thread.getCurrentThreadAllocatedBytes() - ahead;
            if (made > MOST_BYTES) {
                dear.add("run " + what + " makes " + made + " bytes");
            }
        }
        holds("Rule 12 | What a run makes is counted: keep it small", dear);
    }

    public static void main(String[] args) throws IOException {
        String code = code();
        fields();
        library(code);
        calls(code);
        room();
        System.out.println(wrong == 0 ? "the rules hold" : wrong + " are not as due");
        if (wrong != 0) {
            System.exit(1);
        }
    }
}
