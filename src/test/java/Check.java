import java.lang.reflect.InvocationTargetException;
import java.lang.reflect.Method;
import java.util.Map;
import java.util.TreeMap;

/** What every test of the project shares: it counts wrong answers, and makes a few common states. */
final class Check {
    private static int wrong = 0;
    private static int looked = 0;
    private static String current = "";

    private Check() {
    }

    static void due(String call, long got, long want) {
        looked++;
        if (got != want) {
            wrong++;
            System.out.println(current + call + " answered " + got + ", due is " + want);
        }
    }

    static void due(String call, boolean got, boolean want) {
        due(call, got ? 1 : 0, want ? 1 : 0);
    }

    static void wrong(String text) {
        looked++;
        wrong++;
        System.out.println(current + text);
    }

    static boolean anyWrong() {
        return wrong > 0;
    }

    /** Runs each method of the class whose name begins as said, as a test of its own. */
    static void each(Class<?> tests, String beginning) throws ReflectiveOperationException {
        Map<String, Method> byName = new TreeMap<>();
        for (Method method : tests.getDeclaredMethods()) {
            if (method.getName().startsWith(beginning) && method.getParameterCount() == 0) {
                byName.put(method.getName(), method);
            }
        }
        int failed = 0;
        for (Method method : byName.values()) {
            int before = wrong;
            one(method);
            failed += wrong > before ? 1 : 0;
        }
        System.out.println(byName.size() + " tests of " + tests.getName() + ", " + failed + " failed");
        if (byName.isEmpty()) {
            wrong(tests.getName() + " has no tests");
        }
    }

    private static void one(Method test) throws IllegalAccessException {
        current = test.getName() + ": ";
        test.setAccessible(true);
        int before = looked;
        try {
            test.invoke(null);
        } catch (InvocationTargetException e) {
            wrong("threw " + e.getCause());
        }
        if (looked == before) {
            wrong("looked at nothing");
        }
        current = "";
    }

    static void end() {
        System.out.println(looked + " answers looked at, " + wrong + " wrong");
        if (wrong > 0) {
            System.exit(1);
        }
    }

    /** Delivers the records first .. last to the copies 0 .. 3 of their groups: a quorum. */
    static void toQuorum(RedoQuorum x, int first, int last) {
        for (int l = first; l <= last; l++) {
            for (int c = 0; c < 4; c++) {
                due("deliver(" + l + ", " + c + ")", x.deliver(l, c), 2);
            }
        }
    }

    /** Begins, writes and commits one transaction, and delivers its two records to a quorum. */
    static void committed(RedoQuorum x, int key, int value) {
        int t = x.begin();
        int l = x.write(t, key, value);
        due("commit(" + t + ")", x.commit(t), l + 1);
        toQuorum(x, l, l + 1);
    }

    /** Takes a page into the cache, by reading its first key. */
    static void touched(RedoQuorum x, int t, int page) {
        due("read(" + t + ", " + 4 * page + ")", x.read(t, 4 * page) >= 0, true);
    }

    /** The ranks of the pages 0 .. 7 as a number of eight digits. */
    static void cacheDue(RedoQuorum x, String ranks) {
        StringBuilder got = new StringBuilder();
        for (int p = 0; p < 8; p++) {
            got.append(x.cached(p));
        }
        looked++;
        if (!got.toString().equals(ranks)) {
            wrong++;
            System.out.println(current + "cached(0 .. 7) answered " + got + ", due is " + ranks);
        }
    }
}
