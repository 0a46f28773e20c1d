import java.util.ArrayList;
import java.util.List;
import java.util.function.BiConsumer;

/**
 * Two runs that were alike, of which one had a further call that must change nothing: whatever is
 * asked of them afterwards, both must tell the same.
 */
final class Twins {
    /** What is told from then on; each probe has a pair of runs of its own, because asking changes them. */
    private static final List<BiConsumer<Run, List<String>>> PROBES = List.of(
        Twins::seen,
        (run, told) -> keysOpenTo(0, run, told),
        (run, told) -> keysOpenTo(1, run, told),
        (run, told) -> keysOpenTo(2, run, told),
        (run, told) -> keysOpenTo(3, run, told),
        Twins::endings,
        Twins::restarted,
        Twins::repaired,
        Twins::turned,
        (run, told) -> lost(0, 1, run, told),
        (run, told) -> lost(5, -1, run, told),
        Twins::recovered);

    private Twins() {
    }

    /** The call changes nothing at all. */
    static void same(String scene, String call, String want) {
        same(scene, call, want, "");
    }

    /** The call changes just what the other calls change, which one of the runs has instead. */
    static void same(String scene, String call, String want, String instead) {
        for (BiConsumer<Run, List<String>> probe : PROBES) {
            List<String> ofOne = new ArrayList<>();
            List<String> ofOther = new ArrayList<>();
            probe.accept(Run.of(scene).go(call + " = " + want), ofOne);
            probe.accept(Run.of(scene).go(instead), ofOther);
            Check.due(call + " changed something; told afterwards " + firstDifference(ofOne, ofOther) + ", after: " + scene,
                ofOne.equals(ofOther), true);
        }
    }

    private static String firstDifference(List<String> one, List<String> other) {
        for (int i = 0; i < Math.min(one.size(), other.size()); i++) {
            if (!one.get(i).equals(other.get(i))) {
                return one.get(i) + " instead of " + other.get(i);
            }
        }
        return one.size() + " answers instead of " + other.size();
    }

    private static void ask(Run run, List<String> told, String call) {
        told.add(call + " = " + run.answer(call));
    }

    private static void askCopies(Run run, List<String> told, String name, String last) {
        for (int g = 0; g < 2; g++) {
            for (int c = 0; c < 6; c++) {
                ask(run, told, name + " " + g + " " + c + last);
            }
        }
    }

    /** All that can be seen without changing anything. */
    private static void seen(Run run, List<String> told) {
        for (int what = 0; what < 3; what++) {
            ask(run, told, "point " + what);
            askCopies(run, told, "copy", " " + what);
        }
        for (int p = 0; p < 8; p++) {
            ask(run, told, "cached " + p);
        }
        for (int t = 0; t <= 61; t++) {
            ask(run, told, "status " + t);
        }
        for (int key = 0; key < 32; key++) {
            ask(run, told, "view 0 " + key);
            ask(run, told, "view 1 " + key);
        }
    }

    private static List<Integer> active(Run run) {
        List<Integer> active = new ArrayList<>();
        for (int t = 1; t <= 60; t++) {
            if (run.answer("status " + t) == 1) {
                active.add(t);
            }
        }
        return active;
    }

    /** Which keys are locked to one of the ACTIVE transactions. */
    private static void keysOpenTo(int which, Run run, List<String> told) {
        List<Integer> active = active(run);
        if (which < active.size()) {
            for (int key = 0; key < 32; key++) {
                ask(run, told, "read " + active.get(which) + " " + key);
            }
        }
    }

    private static void endings(Run run, List<String> told) {
        List<Integer> active = active(run);
        ask(run, told, "begin");
        for (int t : active) {
            ask(run, told, (t % 2 == 0 ? "abort " : "commit ") + t);
        }
        ask(run, told, "begin");
        ask(run, told, "follow 0");
        ask(run, told, "follow 1");
        askCopies(run, told, "collect", "");
        seen(run, told);
    }

    /** What the STOPPED copies hold, and what all copies would report. */
    private static void restarted(Run run, List<String> told) {
        askCopies(run, told, "fault", " 1");
        askCopies(run, told, "copy", " 1");
        askCopies(run, told, "copy", " 2");
        for (int g = 0; g < 2; g++) {
            for (int c = 0; c < 6; c++) {
                ask(run, told, "report " + g + " " + c);
                ask(run, told, "point 1");
                ask(run, told, "collect " + g + " " + c);
            }
        }
        for (int l = 1; l <= 6; l++) {
            for (int c = 0; c < 6; c++) {
                ask(run, told, "deliver " + l + " " + c);
            }
        }
        ask(run, told, "point 2");
    }

    private static void repaired(Run run, List<String> told) {
        askCopies(run, told, "fault", " 3");
        for (int what = 0; what < 3; what++) {
            askCopies(run, told, "copy", " " + what);
        }
    }

    /** The STOPPED copies mend the LOST ones, while the others are away: so it shows whether a LOST one held something. */
    private static void turned(Run run, List<String> told) {
        for (int g = 0; g < 2; g++) {
            for (int c = 0; c < 6; c++) {
                String copy = g + " " + c;
                ask(run, told, "fault " + copy + (run.answer("copy " + copy + " 0") == 0 ? " 0" : " 1"));
            }
        }
        repaired(run, told);
    }

    /** The complete point sinks with each copy that is lost: so every reported point shows. */
    private static void lost(int first, int step, Run run, List<String> told) {
        for (int i = 0; i < 6; i++) {
            for (int g = 0; g < 2; g++) {
                ask(run, told, "fault " + g + " " + (first + i * step) + " 2");
                ask(run, told, "point 1");
            }
        }
    }

    private static void recovered(Run run, List<String> told) {
        ask(run, told, "crash");
        ask(run, told, "recover");
        askCopies(run, told, "fault", " 1");
        ask(run, told, "recover");
        ask(run, told, "begin");
        seen(run, told);
    }
}
