import java.util.ArrayList;
import java.util.Collections;
import java.util.HashSet;
import java.util.List;
import java.util.Set;
import java.util.TreeSet;
import java.util.function.IntPredicate;

/**
 * The document's words once more, as sets and definitions, slow and without any stored number that
 * could be worked out. ModelTest holds RedoQuorum against it.
 */
final class PlainModel {
    static final int BAD = -1;
    static final int DOWN = -2;
    static final int IDLE = -3;
    static final int LOCKED = -4;
    static final int FULL = -5;
    static final int STALL = -6;
    static final int AWAY = -7;
    static final int SHORT = -8;

    /** key is -1 for an END; then value is 1 when it commits and 0 when it aborts. */
    record Rec(int t, int key, int value, boolean closes) {
        boolean isEnd() {
            return key < 0;
        }

        int group() {
            return isEnd() ? t % 2 : key / 4 % 2;
        }
    }

    static final class Copy {
        final int group;
        String state = "LIVE";
        Set<Integer> holds = new TreeSet<>();
        int fold = 0;
        int reported = 0;

        Copy(int g) {
            group = g;
        }

        boolean live() {
            return state.equals("LIVE");
        }
    }

    final List<Rec> log = new ArrayList<>();
    final Copy[][] copies = new Copy[2][6];
    final List<Integer> cache = new ArrayList<>();
    final int[] views = new int[2];
    final List<Set<Integer>> heldKeys = new ArrayList<>();
    final Set<Integer> active = new HashSet<>();
    boolean up = true;
    int durable = 0;
    int begun = 0;

    PlainModel() {
        for (int g = 0; g < 2; g++) {
            for (int c = 0; c < 6; c++) {
                copies[g][c] = new Copy(g);
            }
        }
        for (int t = 0; t <= 60; t++) {
            heldKeys.add(new HashSet<>());
        }
    }

    Rec rec(int l) {
        return log.get(l - 1);
    }

    int greatest(int limit, IntPredicate what) {
        int best = 0;
        for (int l = 1; l <= limit; l++) {
            if (what.test(l)) {
                best = l;
            }
        }
        return best;
    }

    int value(int key, int limit) {
        int l = greatest(limit, i -> rec(i).key() == key);
        return l == 0 ? 0 : rec(l).value();
    }

    int latest(int page) {
        return greatest(log.size(), i -> !rec(i).isEnd() && rec(i).key() / 4 == page);
    }

    int end(int t, int limit) {
        return greatest(limit, i -> rec(i).t() == t && rec(i).isEnd());
    }

    boolean holdsAll(Copy copy, int limit) {
        for (int l = 1; l <= limit; l++) {
            if (rec(l).group() == copy.group && !copy.holds.contains(l)) {
                return false;
            }
        }
        return true;
    }

    int pointOf(Copy copy) {
        return greatest(log.size(), i -> rec(i).group() == copy.group && holdsAll(copy, i));
    }

    int pointOfGroup(int g) {
        List<Integer> points = new ArrayList<>();
        for (Copy copy : copies[g]) {
            points.add(copy.reported);
        }
        points.sort(Collections.reverseOrder());
        return points.get(3);
    }

    int complete() {
        int[] points = {pointOfGroup(0), pointOfGroup(1)};
        int best = 0;
        while (best < log.size() && best + 1 <= points[rec(best + 1).group()]) {
            best++;
        }
        return best;
    }

    void settle() {
        int candidate = greatest(complete(), i -> rec(i).closes());
        if (candidate > durable) {
            durable = candidate;
        }
    }

    int low(int v) {
        int least = v;
        for (int f = 1; f <= v; f++) {
            if (end(rec(f).t(), v) == 0) {
                least = Math.min(least, f - 1);
            }
        }
        return least;
    }

    boolean someLiveHoldsAll(int g, int limit) {
        for (Copy copy : copies[g]) {
            if (copy.live() && holdsAll(copy, limit)) {
                return true;
            }
        }
        return false;
    }

    int live(int g) {
        int n = 0;
        for (Copy copy : copies[g]) {
            n += copy.live() ? 1 : 0;
        }
        return n;
    }

    int touch(int page, Set<Integer> pagesOfTheCall) {
        if (cache.contains(page)) {
            cache.remove(Integer.valueOf(page));
            cache.add(page);
            return 0;
        }
        List<Integer> mayGo = new ArrayList<>();
        for (int p : cache) {
            if (latest(p) <= durable && !pagesOfTheCall.contains(p)) {
                mayGo.add(p);
            }
        }
        if (latest(page) > durable || (cache.size() == 4 && mayGo.isEmpty())) {
            return STALL;
        }
        if (!someLiveHoldsAll(page % 2, durable)) {
            return AWAY;
        }
        if (cache.size() == 4) {
            cache.remove(mayGo.get(0));
        }
        cache.add(page);
        return 0;
    }

    int rollBack(int t) {
        Set<Integer> keys = new TreeSet<>();
        for (Rec r : log) {
            if (r.t() == t && !r.isEnd()) {
                keys.add(r.key());
            }
        }
        List<Rec> added = new ArrayList<>();
        for (int key : keys) {
            int first = 1;
            while (rec(first).t() != t || rec(first).key() != key) {
                first++;
            }
            added.add(new Rec(t, key, value(key, first - 1), false));
        }
        log.addAll(added);
        log.add(new Rec(t, -1, 0, true));
        return log.size();
    }

    boolean lockedByAnother(int t, int key) {
        for (int other : active) {
            if (other != t && heldKeys.get(other).contains(key)) {
                return true;
            }
        }
        return false;
    }

    static boolean within(int n, int least, int most) {
        return least <= n && n <= most;
    }

    int begin() {
        if (!up) {
            return DOWN;
        }
        if (active.size() == 4 || begun == 60 || log.size() >= 150) {
            return FULL;
        }
        begun++;
        active.add(begun);
        return begun;
    }

    int read(int t, int key) {
        if (!within(key, 0, 31)) {
            return BAD;
        }
        if (!up) {
            return DOWN;
        }
        if (!active.contains(t)) {
            return IDLE;
        }
        if (lockedByAnother(t, key)) {
            return LOCKED;
        }
        int refused = touch(key / 4, Set.of(key / 4));
        if (refused != 0) {
            return refused;
        }
        heldKeys.get(t).add(key);
        return value(key, log.size());
    }

    int write(int t, int key, int value) {
        if (!within(key, 0, 31) || !within(value, 0, 9999)) {
            return BAD;
        }
        if (!up) {
            return DOWN;
        }
        if (!active.contains(t)) {
            return IDLE;
        }
        if (lockedByAnother(t, key)) {
            return LOCKED;
        }
        if (log.size() >= 150) {
            return FULL;
        }
        int refused = touch(key / 4, Set.of(key / 4));
        if (refused != 0) {
            return refused;
        }
        heldKeys.get(t).add(key);
        log.add(new Rec(t, key, value, true));
        return log.size();
    }

    int shift(int t, int a, int b, int n) {
        if (!within(a, 0, 31) || !within(b, 0, 31) || a == b || !within(n, 1, 9999)) {
            return BAD;
        }
        if (!up) {
            return DOWN;
        }
        if (!active.contains(t)) {
            return IDLE;
        }
        if (lockedByAnother(t, a) || lockedByAnother(t, b)) {
            return LOCKED;
        }
        if (log.size() >= 150) {
            return FULL;
        }
        Set<Integer> pages = new HashSet<>(List.of(a / 4, b / 4));
        int refused = touch(a / 4, pages);
        if (refused != 0) {
            return refused;
        }
        refused = touch(b / 4, pages);
        if (refused != 0) {
            return refused;
        }
        int valueOfA = value(a, log.size());
        int valueOfB = value(b, log.size());
        if (valueOfA < n || valueOfB > 9999 - n) {
            return SHORT;
        }
        heldKeys.get(t).addAll(List.of(a, b));
        log.add(new Rec(t, a, valueOfA - n, false));
        log.add(new Rec(t, b, valueOfB + n, true));
        return log.size();
    }

    int finish(int t, boolean commits) {
        if (!up) {
            return DOWN;
        }
        if (!active.contains(t)) {
            return IDLE;
        }
        active.remove(t);
        heldKeys.get(t).clear();
        if (!commits) {
            return rollBack(t);
        }
        log.add(new Rec(t, -1, 1, true));
        return log.size();
    }

    int status(int t) {
        if (!within(t, 1, begun)) {
            return 0;
        }
        if (active.contains(t)) {
            return 1;
        }
        int end = end(t, log.size());
        if (end == 0) {
            return 5;
        }
        if (rec(end).value() == 0) {
            return 4;
        }
        return end > durable ? 2 : 3;
    }

    int deliver(int l, int c) {
        if (!within(l, 1, log.size()) || !within(c, 0, 5)) {
            return BAD;
        }
        Copy copy = copies[rec(l).group()][c];
        if (!copy.live()) {
            return 0;
        }
        int answer = copy.holds.add(l) ? 2 : 1;
        if (up) {
            copy.reported = pointOf(copy);
            settle();
        }
        return answer;
    }

    int gossip(int g, int from, int to) {
        if (!within(g, 0, 1) || !within(from, 0, 5) || !within(to, 0, 5) || from == to) {
            return BAD;
        }
        Copy source = copies[g][from];
        Copy target = copies[g][to];
        if (!source.live() || !target.live()) {
            return AWAY;
        }
        int before = target.holds.size();
        target.holds.addAll(source.holds);
        if (source.fold > target.fold) {
            target.fold = source.fold;
        }
        return target.holds.size() - before;
    }

    int report(int g, int c) {
        if (!within(g, 0, 1) || !within(c, 0, 5)) {
            return BAD;
        }
        if (!up) {
            return DOWN;
        }
        Copy copy = copies[g][c];
        if (!copy.live()) {
            return AWAY;
        }
        copy.reported = pointOf(copy);
        settle();
        return copy.reported;
    }

    boolean fault(int g, int c, int what) {
        if (!within(g, 0, 1) || !within(c, 0, 5) || !within(what, 0, 3)) {
            return false;
        }
        Copy copy = copies[g][c];
        if (what == 0 && copy.state.equals("LIVE")) {
            copy.state = "STOPPED";
            return true;
        }
        if (what == 1 && copy.state.equals("STOPPED")) {
            copy.state = "LIVE";
            return true;
        }
        if (what == 2 && !copy.state.equals("LOST")) {
            copies[g][c] = new Copy(g);
            copies[g][c].state = "LOST";
            return true;
        }
        if (what == 3 && copy.state.equals("LOST") && live(g) >= 3) {
            for (Copy other : copies[g]) {
                if (other.live()) {
                    copy.holds.addAll(other.holds);
                    copy.fold = Math.max(copy.fold, other.fold);
                }
            }
            copy.state = "LIVE";
            return true;
        }
        return false;
    }

    boolean crash() {
        if (!up) {
            return false;
        }
        up = false;
        cache.clear();
        for (Copy[] group : copies) {
            for (Copy copy : group) {
                copy.reported = 0;
            }
        }
        return true;
    }

    int recover() {
        if (up) {
            return BAD;
        }
        if (live(0) < 3 || live(1) < 3) {
            return AWAY;
        }
        int reach = 0;
        while (reach < log.size() && liveHolds(reach + 1)) {
            reach++;
        }
        int m = greatest(reach, i -> rec(i).closes());
        if (m < durable) {
            throw new IllegalStateException("M " + m + " is less than the durable point " + durable);
        }
        log.subList(m, log.size()).clear();
        up = true;
        for (Copy[] group : copies) {
            for (Copy copy : group) {
                copy.holds.removeIf(l -> l > m);
                if (copy.live()) {
                    copy.reported = pointOf(copy);
                }
            }
        }
        settle();
        active.clear();
        for (Set<Integer> keys : heldKeys) {
            keys.clear();
        }
        rollBackAll();
        return m;
    }

    private boolean liveHolds(int l) {
        for (Copy copy : copies[rec(l).group()]) {
            if (copy.live() && copy.holds.contains(l)) {
                return true;
            }
        }
        return false;
    }

    private void rollBackAll() {
        Set<Integer> changed = new TreeSet<>();
        for (Rec r : log) {
            changed.add(r.t());
        }
        for (int t : changed) {
            if (end(t, log.size()) == 0) {
                rollBack(t);
            }
        }
    }

    int point(int what) {
        if (what == 1 && !up) {
            return DOWN;
        }
        return what == 0 ? log.size() : what == 1 ? complete() : what == 2 ? durable : BAD;
    }

    int copy(int g, int c, int what) {
        if (!within(g, 0, 1) || !within(c, 0, 5) || !within(what, 0, 2)) {
            return BAD;
        }
        Copy copy = copies[g][c];
        if (what == 0) {
            return List.of("LIVE", "STOPPED", "LOST").indexOf(copy.state);
        }
        if (!copy.live()) {
            return BAD;
        }
        return what == 1 ? pointOf(copy) : kept(copy);
    }

    int kept(Copy copy) {
        int kept = 0;
        for (int l : copy.holds) {
            kept += l > copy.fold ? 1 : 0;
        }
        return kept;
    }

    int follow(int r) {
        if (!within(r, 0, 1)) {
            return BAD;
        }
        if (!up) {
            return DOWN;
        }
        views[r] = durable;
        return durable;
    }

    int view(int r, int key) {
        if (!within(r, 0, 1) || !within(key, 0, 31)) {
            return BAD;
        }
        int v = views[r];
        if (!someLiveHoldsAll(key / 4 % 2, v)) {
            return AWAY;
        }
        int l = greatest(v, i -> rec(i).key() == key && end(rec(i).t(), v) > 0);
        return l == 0 ? 0 : rec(l).value();
    }

    int collect(int g, int c) {
        if (!within(g, 0, 1) || !within(c, 0, 5)) {
            return BAD;
        }
        if (!up) {
            return DOWN;
        }
        Copy copy = copies[g][c];
        if (!copy.live()) {
            return AWAY;
        }
        int before = kept(copy);
        int least = Math.min(Math.min(pointOf(copy), low(durable)), Math.min(low(views[0]), low(views[1])));
        copy.fold = Math.max(copy.fold, least);
        return before - kept(copy);
    }

    int cached(int p) {
        int at = cache.indexOf(p);
        return at < 0 ? 0 : cache.size() - at;
    }
}
