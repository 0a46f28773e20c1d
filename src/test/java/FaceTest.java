import java.io.IOException;
import java.lang.reflect.Constructor;
import java.lang.reflect.Field;
import java.lang.reflect.Method;
import java.lang.reflect.Modifier;
import java.nio.file.Files;
import java.nio.file.Path;
import java.util.Arrays;
import java.util.Map;
import java.util.Random;
import java.util.Set;
import java.util.TreeMap;
import java.util.TreeSet;
import java.util.regex.Matcher;
import java.util.regex.Pattern;

/** The public face, the rules of LANGUAGE.md that can be seen from outside, and calls with any arguments. */
public final class FaceTest {
    private static final Map<String, Integer> CONSTANTS = Map.of("BAD", -1, "DOWN", -2, "IDLE", -3, "LOCKED", -4,
        "FULL", -5, "STALL", -6, "AWAY", -7, "SHORT", -8);
    private static final String[] METHODS = {"int begin()", "int read(int,int)", "int write(int,int,int)",
        "int shift(int,int,int,int)", "int commit(int)", "int abort(int)", "int status(int)", "int deliver(int,int)",
        "int gossip(int,int,int)", "int report(int,int)", "boolean fault(int,int,int)", "boolean crash()",
        "int recover()", "int point(int)", "int copy(int,int,int)", "int follow(int)", "int view(int,int)",
        "int collect(int,int)", "int cached(int)"};
    private static final String[] BANNED = {"throw", "throws", "try", "catch", "synchronized", "assert", "import",
        "package", "goto", "native", "volatile", "protected", "Random", "Thread", "Exception", "HashMap", "Object"};

    public static void main(String[] args) throws ReflectiveOperationException, IOException {
        constants();
        methods();
        membersAreHidden();
        nestedClassesAreStatic();
        if (args.length > 0) {
            words(Files.readString(Path.of(args[0])));
        }
        anyArguments();
        Check.end();
    }

    private static void constants() throws ReflectiveOperationException {
        Map<String, Integer> got = new TreeMap<>();
        for (Field field : RedoQuorum.class.getDeclaredFields()) {
            int m = field.getModifiers();
            if (Modifier.isPublic(m)) {
                Check.due(field + " is static, final and an int",
                    Modifier.isStatic(m) && Modifier.isFinal(m) && field.getType() == int.class, true);
                got.put(field.getName(), field.getInt(null));
            }
        }
        Check.due("the constants are " + got, got.equals(new TreeMap<>(CONSTANTS)), true);
    }

    private static void methods() {
        Set<String> got = new TreeSet<>();
        for (Method method : RedoQuorum.class.getDeclaredMethods()) {
            if (Modifier.isPublic(method.getModifiers())) {
                StringBuilder types = new StringBuilder();
                for (Class<?> type : method.getParameterTypes()) {
                    types.append(types.length() > 0 ? "," : "").append(type.getName());
                }
                got.add(method.getReturnType().getName() + " " + method.getName() + "(" + types + ")");
            }
        }
        Check.due("the methods are " + got, got.equals(new TreeSet<>(Arrays.asList(METHODS))), true);
        Constructor<?>[] constructors = RedoQuorum.class.getDeclaredConstructors();
        Check.due("constructors", constructors.length, 1);
        Check.due("the constructor is public", Modifier.isPublic(constructors[0].getModifiers()), true);
        Check.due("its parameters", constructors[0].getParameterCount(), 0);
        int m = RedoQuorum.class.getModifiers();
        Check.due("the class is public and final", Modifier.isPublic(m) && Modifier.isFinal(m), true);
    }

    private static Set<String> faceNames() {
        Set<String> face = new TreeSet<>();
        for (String method : METHODS) {
            face.add(method.substring(method.indexOf(' ') + 1, method.indexOf('(')));
        }
        return face;
    }

    private static void membersAreHidden() {
        Set<String> face = faceNames();
        for (Field field : RedoQuorum.class.getDeclaredFields()) {
            Check.due(field + " is hidden or of the face",
                Modifier.isPrivate(field.getModifiers()) || CONSTANTS.containsKey(field.getName()), true);
        }
        for (Method method : RedoQuorum.class.getDeclaredMethods()) {
            Check.due(method + " is either private or of the face",
                Modifier.isPrivate(method.getModifiers()) != face.contains(method.getName()), true);
        }
    }

    private static void nestedClassesAreStatic() {
        for (Class<?> nested : RedoQuorum.class.getDeclaredClasses()) {
            int m = nested.getModifiers();
            Check.due(nested + " is static and not seen", Modifier.isStatic(m) && !Modifier.isPublic(m), true);
            for (Method method : nested.getDeclaredMethods()) {
                Check.due(method + " bears no name of the face", faceNames().contains(method.getName()), false);
            }
            for (Field field : nested.getDeclaredFields()) {
                int f = field.getModifiers();
                Check.due(field + " is no static state", !Modifier.isStatic(f) || Modifier.isFinal(f), true);
            }
        }
    }

    private static void words(String source) {
        String bare = source.replaceAll("(?s)/\\*.*?\\*/", " ").replaceAll("//[^\n]*", " ");
        for (String word : BANNED) {
            Matcher found = Pattern.compile("\\b" + word + "\\b").matcher(bare);
            Check.due("the word " + word + " stands in the program", found.find(), false);
        }
        Check.due("an arrow or a method reference stands in the program", bare.contains("->") || bare.contains("::"), false);
    }

    /** Long past the 512th call too, where answers are free but no call may throw. */
    private static void anyArguments() {
        int[] edges = {Integer.MIN_VALUE, -8, -1, 0, 1, 2, 3, 4, 5, 6, 7, 8, 31, 32, 60, 61, 150, 151, 187, 188,
            9999, 10000, Integer.MAX_VALUE};
        Random random = new Random(7);
        for (int run = 0; run < 200; run++) {
            RedoQuorum x = new RedoQuorum();
            for (int i = 0; i < 3000; i++) {
                int[] a = new int[4];
                for (int j = 0; j < 4; j++) {
                    a[j] = random.nextInt(3) == 0 ? edges[random.nextInt(edges.length)] : random.nextInt(8);
                }
                String failed = called(x, random.nextInt(24), a);
                if (failed != null) {
                    Check.wrong(Arrays.toString(a) + " made a call throw " + failed);
                    return;
                }
            }
        }
        Check.due("calls with any arguments end", true, true);
    }

    private static String called(RedoQuorum x, int name, int[] a) {
        try {
            switch (name) {
                case 0 -> x.begin();
                case 1 -> x.read(a[0], a[1]);
                case 2 -> x.write(a[0], a[1], a[2]);
                case 3 -> x.shift(a[0], a[1], a[2], a[3]);
                case 4 -> x.commit(a[0]);
                case 5 -> x.abort(a[0]);
                case 6 -> x.status(a[0]);
                case 7 -> x.gossip(a[0], a[1], a[2]);
                case 8 -> x.report(a[0], a[1]);
                case 9 -> x.fault(a[0], a[1], a[2]);
                case 10 -> x.crash();
                case 11, 12 -> x.recover();
                case 13 -> x.point(a[0]);
                case 14 -> x.copy(a[0], a[1], a[2]);
                case 15 -> x.follow(a[0]);
                case 16 -> x.view(a[0], a[1]);
                case 17 -> x.collect(a[0], a[1]);
                case 18 -> x.cached(a[0]);
                default -> x.deliver(x.point(2) + 1 + a[0] % 4, a[1]);
            }
            return null;
        } catch (RuntimeException e) {
            return e.toString();
        }
    }
}
