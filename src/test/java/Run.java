import java.util.ArrayList;
import java.util.List;

/**
 * One object and scripts of calls with the answers that are due, so that a test reads as a case of
 * the document: "begin = 1; write 1 0 9999 = 1; write 1 0 -1,10000,MIN,MAX = BAD".
 *
 * <p>An argument may be several numbers (0,2..4,MIN): every call that they make must answer the
 * same. Further words: "quorum 1..3" delivers records to the copies 0 .. 3 of their groups, "fill 1
 * 0 149" has transaction 1 write key 0 until the log has 149 records, "cache 43210000" looks at the
 * ranks of the pages 0 .. 7.
 */
final class Run {
    /** What later calls answer is free. */
    private static final int MOST_CALLS = 512;
    private static final List<String> REFUSALS =
        List.of("BAD", "DOWN", "IDLE", "LOCKED", "FULL", "STALL", "AWAY", "SHORT");

    private final RedoQuorum x = new RedoQuorum();
    private int calls = 0;

    private Run() {
    }

    static Run of(String script) {
        return new Run().go(script);
    }

    Run go(String script) {
        for (String part : script.split(";")) {
            if (!part.isBlank()) {
                one(part.trim());
            }
        }
        return this;
    }

    /** The answer of one call, for those that hold two runs against each other. */
    long answer(String call) {
        String[] words = call.trim().split(" +");
        int[] a = new int[words.length - 1];
        for (int i = 0; i < a.length; i++) {
            a[i] = number(words[i + 1]);
        }
        return called(words[0], a);
    }

    private void one(String part) {
        String[] sides = part.split("=");
        String[] words = sides[0].trim().split(" +");
        switch (words[0]) {
            case "quorum" -> quorum(words[1]);
            case "fill" -> fill(number(words[1]), number(words[2]), number(words[3]));
            case "cache" -> cacheDue(words[1]);
            default -> every(words, new int[words.length - 1], 0, wanted(sides[1].trim()));
        }
    }

    private void every(String[] words, int[] a, int set, long want) {
        if (set < a.length) {
            for (int number : numbers(words[set + 1])) {
                a[set] = number;
                every(words, a, set + 1, want);
            }
            return;
        }
        StringBuilder call = new StringBuilder(words[0]);
        for (int number : a) {
            call.append(' ').append(number);
        }
        Check.due(call.toString(), called(words[0], a), want);
    }

    private void quorum(String records) {
        for (int l : numbers(records)) {
            go("deliver " + l + " 0..3 = 2");
        }
    }

    private void fill(int t, int key, int records) {
        for (int l = x.point(0) + 1; l <= records; l++) {
            go("write " + t + " " + key + " " + l + " = " + l);
        }
    }

    private void cacheDue(String ranks) {
        calls += 8;
        Check.cacheDue(x, ranks);
    }

    private static List<Integer> numbers(String text) {
        List<Integer> numbers = new ArrayList<>();
        for (String part : text.split(",")) {
            int dots = part.indexOf("..");
            int first = number(dots < 0 ? part : part.substring(0, dots));
            int last = dots < 0 ? first : number(part.substring(dots + 2));
            for (long n = first; n <= last; n++) {
                numbers.add((int) n);
            }
        }
        return numbers;
    }

    private static int number(String text) {
        return switch (text) {
            case "MIN" -> Integer.MIN_VALUE;
            case "MAX" -> Integer.MAX_VALUE;
            default -> Integer.parseInt(text);
        };
    }

    static long wanted(String text) {
        if (REFUSALS.contains(text)) {
            return -1 - REFUSALS.indexOf(text);
        }
        return text.equals("true") ? 1 : text.equals("false") ? 0 : number(text);
    }

    private long called(String name, int[] a) {
        calls++;
        if (calls > MOST_CALLS) {
            Check.wrong("a test makes more than " + MOST_CALLS + " calls of one object");
        }
        return switch (name) {
            case "begin" -> x.begin();
            case "read" -> x.read(a[0], a[1]);
            case "write" -> x.write(a[0], a[1], a[2]);
            case "shift" -> x.shift(a[0], a[1], a[2], a[3]);
            case "commit" -> x.commit(a[0]);
            case "abort" -> x.abort(a[0]);
            case "status" -> x.status(a[0]);
            case "deliver" -> x.deliver(a[0], a[1]);
            case "gossip" -> x.gossip(a[0], a[1], a[2]);
            case "report" -> x.report(a[0], a[1]);
            case "fault" -> x.fault(a[0], a[1], a[2]) ? 1 : 0;
            case "crash" -> x.crash() ? 1 : 0;
            case "recover" -> x.recover();
            case "point" -> x.point(a[0]);
            case "copy" -> x.copy(a[0], a[1], a[2]);
            case "follow" -> x.follow(a[0]);
            case "view" -> x.view(a[0], a[1]);
            case "collect" -> x.collect(a[0], a[1]);
            case "cached" -> x.cached(a[0]);
            default -> throw new IllegalArgumentException("no such call: " + name);
        };
    }
}
