import java.io.IOException;
import java.lang.reflect.Constructor;
import java.lang.reflect.Field;
import java.lang.reflect.Method;
import java.lang.reflect.Modifier;
import java.nio.file.Files;
import java.nio.file.Path;
import java.util.ArrayList;
import java.util.HashSet;
import java.util.List;
import java.util.Set;
import java.util.TreeSet;
import java.util.regex.Matcher;
import java.util.regex.Pattern;

/** The public face, and those rules of LANGUAGE.md that can be seen in the source. */
public final class FaceTest {
    private static final Path SOURCE = Path.of("src/main/java/ReturnPoints.java");
    private static final int LONGEST_METHOD = 60;

    private static final String[] FACE = {
        "int sheet(int,int,int)", "long set(int,int,long)", "int copy(int,int,int,int,int)", "int drop(int)",
        "int map(int,int,int,int)", "int plain(int,int)", "int turn(int,int,int,int)", "int behind(int,int,int)",
        "int clear(int)", "int number(int,int)", "int kind(int)", "int is(int,int)", "int as(int,int)",
        "int ask(int,int)", "int trace(int)", "int step(int,int,int)", "int way(int,int,int)",
        "int ring(int,int,int)", "int all(int,int)", "int alike(int,int)", "int round(int,int,int)",
        "int fraction(int,int,int,int)", "int next(int,int,int)", "int count(int)", "int status()"};

    private static final String[] BANNED = {
        "\\bthrows?\\b", "\\btry\\b", "\\bcatch\\b", "\\bsynchronized\\b", "\\bassert\\b", "->", "::",
        "\\bthis\\.getClass\\b", "\\bequals\\b", "\\bhashCode\\b", "\\btoString\\b", "\\bnew Object\\b",
        "\\w+Exact\\b", "\\bSystem\\.(?!arraycopy\\b)", "\\bThread\\b", "\\bimport (?!java\\.util\\.(Arrays|ArrayList|List|Iterator);)",
        "\\bpackage\\b", "\\bvar\\b", "\\bprotected\\b", "\"", "\\bfloat\\b", "\\bdouble\\b", "@"};

    private static int wrong = 0;

    private static void due(boolean holds, String what) {
        if (!holds) {
            wrong++;
            System.out.println("not as due: " + what);
        }
    }

    private static String shown(Method method) {
        List<String> types = new ArrayList<>();
        for (Class<?> type : method.getParameterTypes()) {
            types.add(type.getName());
        }
        return method.getReturnType().getName() + " " + method.getName() + "(" + String.join(",", types) + ")";
    }

    private static void face() throws ReflectiveOperationException {
        Class<?> it = ReturnPoints.class;
        due(Modifier.isPublic(it.getModifiers()) && Modifier.isFinal(it.getModifiers()), "public and final");
        due(it.getSuperclass() == Object.class && it.getInterfaces().length == 0, "extends nothing");
        Set<String> methods = new TreeSet<>();
        for (Method method : it.getDeclaredMethods()) {
            if (!Modifier.isPrivate(method.getModifiers())) {
                due(Modifier.isPublic(method.getModifiers()) && !Modifier.isStatic(method.getModifiers()), shown(method));
                methods.add(shown(method));
            }
        }
        due(methods.equals(new TreeSet<>(List.of(FACE))), "the public methods: " + methods);
        Constructor<?>[] constructors = it.getDeclaredConstructors();
        due(constructors.length == 1 && Modifier.isPublic(constructors[0].getModifiers()), "one constructor");
        due(it.getConstructor(int.class) != null, "of an int");
        Set<String> constants = new TreeSet<>();
        for (Field field : it.getDeclaredFields()) {
            int how = field.getModifiers();
            if (Modifier.isPublic(how)) {
                due(Modifier.isStatic(how) && Modifier.isFinal(how) && field.getType() == int.class, field.getName());
                constants.add(field.getName() + field.getInt(null));
            } else {
                due(Modifier.isPrivate(how), "private: " + field.getName());
            }
        }
        due(constants.equals(Set.of("NONE-1000000", "BAD-1000001", "FULL-1000003")), "the constants: " + constants);
    }

    private static void insides() {
        Set<String> names = new HashSet<>();
        for (Method method : ReturnPoints.class.getMethods()) {
            names.add(method.getName());
        }
        List<Class<?>> classes = new ArrayList<>(List.of(ReturnPoints.class.getDeclaredClasses()));
        due(classes.size() <= 12, "some twelve classes");
        classes.add(ReturnPoints.class);
        for (Class<?> one : classes) {
            if (one != ReturnPoints.class) {
                due(Modifier.isStatic(one.getModifiers()), "static: " + one);
                due(!Modifier.isPublic(one.getModifiers()), "not public: " + one);
                due(one.getDeclaredClasses().length == 0, "no class within " + one);
            }
            int fields = 0;
            for (Field field : one.getDeclaredFields()) {
                fields += Modifier.isStatic(field.getModifiers()) ? 0 : 1;
                due(!Modifier.isStatic(field.getModifiers()) || Modifier.isFinal(field.getModifiers()),
                    "static state " + field);
            }
            due(fields <= 20, "some twenty fields in " + one);
            for (Method method : one.getDeclaredMethods()) {
                due(method.getParameterCount() <= 7, "seven parameters: " + method);
                due(Modifier.isPublic(method.getModifiers()) || !names.contains(method.getName()),
                    "a public one's name: " + method);
            }
        }
    }

    private static String withoutComments(String source) {
        return Pattern.compile("/\\*.*?\\*/|//[^\n]*", Pattern.DOTALL).matcher(source).replaceAll(" ");
    }

    private static void source() throws IOException {
        String source = Files.readString(SOURCE);
        for (int i = 0; i < source.length(); i++) {
            due(source.charAt(i) < 128, "a sign above 127 at " + i);
        }
        String code = withoutComments(source);
        for (String word : BANNED) {
            Matcher found = Pattern.compile(word).matcher(code);
            due(!found.find(), "no " + word);
        }
        int from = -1;
        String[] lines = source.split("\n");
        for (int i = 0; i < lines.length; i++) {
            due(lines[i].length() <= 120, "a line's length: " + (i + 1));
            if (lines[i].endsWith(") {") && lines[i].matches(" {4,8}[A-Za-z].*") && !lines[i].matches(" *(if|for|while|switch) .*")) {
                from = i;
            } else if (from >= 0 && lines[i].matches(" {4,8}}")
                    && lines[i].indexOf('}') == lines[from].length() - lines[from].stripLeading().length()) {
                due(i - from <= LONGEST_METHOD, "a method's length: " + (from + 1));
                from = -1;
            }
        }
    }

    public static void main(String[] args) throws ReflectiveOperationException, IOException {
        face();
        insides();
        source();
        System.out.println(wrong == 0 ? "the face and the rules are as due" : wrong + " are not as due");
        if (wrong != 0) {
            System.exit(1);
        }
    }
}
