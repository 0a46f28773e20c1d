/**
 * A data base whose only durable form is its log: one writer, two groups of six storage copies
 * and two replicas. The numbered promises of the document say what each call answers.
 */
public final class RedoQuorum {
    public static final int BAD = -1;
    public static final int DOWN = -2;
    public static final int IDLE = -3;
    public static final int LOCKED = -4;
    public static final int FULL = -5;
    public static final int STALL = -6;
    public static final int AWAY = -7;
    public static final int SHORT = -8;

    private static final int OK = 0;
    private static final int KEYS = 32;
    private static final int KEYS_OF_A_PAGE = 4;
    private static final int NO_PAGE = -1;
    private static final int MAX_VALUE = 9999;
    private static final int GROUPS = 2;
    private static final int COPIES = 6;
    private static final int QUORUM = 4;
    private static final int LIVE_TO_REPAIR = 3;
    private static final int REPLICAS = 2;
    private static final int MAX_BEGUN = 60;
    private static final int FULL_LOG = 150;

    private final Log log;
    private final Transactions transactions;
    private final Group[] groups;
    private final Cache cache;
    private final int[] views;
    private boolean up;
    private int durable;

    public RedoQuorum() {
        log = new Log();
        transactions = new Transactions();
        groups = new Group[GROUPS];
        for (int g = 0; g < GROUPS; g++) {
            groups[g] = new Group(g);
        }
        cache = new Cache();
        views = new int[REPLICAS];
        up = true;
        durable = 0;
    }

    public int begin() {
        if (!up) {
            return DOWN;
        }
        if (transactions.isFull() || log.size >= FULL_LOG) {
            return FULL;
        }
        return transactions.start();
    }

    public int read(int t, int key) {
        if (!isKey(key)) {
            return BAD;
        }
        int refusal = refusalOfKeys(t, key, key);
        if (refusal == OK) {
            refusal = touch(pageOf(key), NO_PAGE);
        }
        if (refusal != OK) {
            return refusal;
        }
        transactions.hold(t, key);
        return log.valueUpTo(key, log.size);
    }

    public int write(int t, int key, int value) {
        if (!isKey(key) || value < 0 || value > MAX_VALUE) {
            return BAD;
        }
        int refusal = refusalOfChanges(t, key, key);
        if (refusal == OK) {
            refusal = touch(pageOf(key), NO_PAGE);
        }
        if (refusal != OK) {
            return refusal;
        }
        transactions.hold(t, key);
        return log.addChange(t, key, value, true);
    }

    public int shift(int t, int a, int b, int n) {
        if (!isKey(a) || !isKey(b) || a == b || n < 1 || n > MAX_VALUE) {
            return BAD;
        }
        int refusal = refusalOfChanges(t, a, b);
        if (refusal == OK) {
            refusal = touch(pageOf(a), pageOf(b));
        }
        if (refusal == OK) {
            refusal = touch(pageOf(b), pageOf(a));
        }
        if (refusal != OK) {
            return refusal;
        }
        int less = log.valueUpTo(a, log.size) - n;
        int more = log.valueUpTo(b, log.size) + n;
        if (less < 0 || more > MAX_VALUE) {
            return SHORT;
        }
        transactions.hold(t, a);
        transactions.hold(t, b);
        log.addChange(t, a, less, false);
        return log.addChange(t, b, more, true);
    }

    public int commit(int t) {
        int refusal = refusalOfTransaction(t);
        if (refusal != OK) {
            return refusal;
        }
        transactions.finish(t);
        return log.addEnd(t, true);
    }

    public int abort(int t) {
        int refusal = refusalOfTransaction(t);
        if (refusal != OK) {
            return refusal;
        }
        transactions.finish(t);
        return log.rollBack(t);
    }

    public int status(int t) {
        if (t < 1 || t > transactions.begun) {
            return 0;
        }
        if (transactions.isActive(t)) {
            return 1;
        }
        int end = log.end[t];
        if (end == 0) {
            return 5;
        }
        if (!log.commits(end)) {
            return 4;
        }
        return end > durable ? 2 : 3;
    }

    public int deliver(int l, int c) {
        if (!log.has(l) || c < 0 || c >= COPIES) {
            return BAD;
        }
        StorageCopy copy = groups[log.group[l]].copies[c];
        if (!copy.isLive()) {
            return 0;
        }
        boolean isNew = copy.take(l);
        if (up) {
            copy.tellReach(log);
            raiseDurable();
        }
        return isNew ? 2 : 1;
    }

    public int gossip(int g, int from, int to) {
        if (!isCopy(g, from) || !isCopy(g, to) || from == to) {
            return BAD;
        }
        StorageCopy source = groups[g].copies[from];
        StorageCopy target = groups[g].copies[to];
        if (!source.isLive() || !target.isLive()) {
            return AWAY;
        }
        return target.takeAllOf(source);
    }

    public int report(int g, int c) {
        int refusal = refusalOfCopy(g, c);
        if (refusal != OK) {
            return refusal;
        }
        StorageCopy copy = groups[g].copies[c];
        copy.tellReach(log);
        raiseDurable();
        return copy.reported;
    }

    public boolean fault(int g, int c, int what) {
        if (!isCopy(g, c)) {
            return false;
        }
        StorageCopy copy = groups[g].copies[c];
        switch (what) {
            case 0:
                return copy.change(StorageCopy.LIVE, StorageCopy.STOPPED);
            case 1:
                return copy.change(StorageCopy.STOPPED, StorageCopy.LIVE);
            case 2:
                return copy.lose();
            case 3:
                return groups[g].repair(copy);
            default:
                return false;
        }
    }

    public boolean crash() {
        if (!up) {
            return false;
        }
        up = false;
        cache.clear();
        for (int g = 0; g < GROUPS; g++) {
            groups[g].forgetReports();
        }
        return true;
    }

    public int recover() {
        if (up) {
            return BAD;
        }
        for (int g = 0; g < GROUPS; g++) {
            if (groups[g].liveCopies() < LIVE_TO_REPAIR) {
                return AWAY;
            }
        }
        int last = log.lastCloseUpTo(reachOfLiveCopies());
        for (int g = 0; g < GROUPS; g++) {
            groups[g].dropAfter(last);
        }
        log.cutAfter(last);
        up = true;
        for (int g = 0; g < GROUPS; g++) {
            groups[g].tellReaches(log);
        }
        raiseDurable();
        transactions.finishAll();
        rollBackUnended();
        return last;
    }

    public int point(int what) {
        switch (what) {
            case 0:
                return log.size;
            case 1:
                return up ? completePoint() : DOWN;
            case 2:
                return durable;
            default:
                return BAD;
        }
    }

    public int copy(int g, int c, int what) {
        if (!isCopy(g, c)) {
            return BAD;
        }
        StorageCopy copy = groups[g].copies[c];
        if (what == 0) {
            return copy.state;
        }
        if (!copy.isLive()) {
            return BAD;
        }
        switch (what) {
            case 1:
                return copy.reach(log);
            case 2:
                return copy.keptUpTo(log.size);
            default:
                return BAD;
        }
    }

    public int follow(int r) {
        if (!isReplica(r)) {
            return BAD;
        }
        if (!up) {
            return DOWN;
        }
        views[r] = durable;
        return durable;
    }

    public int view(int r, int key) {
        if (!isReplica(r) || !isKey(key)) {
            return BAD;
        }
        if (!groups[groupOfPage(pageOf(key))].serves(views[r], log)) {
            return AWAY;
        }
        return log.endedValueUpTo(key, views[r]);
    }

    public int collect(int g, int c) {
        int refusal = refusalOfCopy(g, c);
        if (refusal != OK) {
            return refusal;
        }
        StorageCopy copy = groups[g].copies[c];
        int limit = Math.min(copy.reach(log), log.lowOf(durable));
        for (int r = 0; r < REPLICAS; r++) {
            limit = Math.min(limit, log.lowOf(views[r]));
        }
        return copy.foldUpTo(limit);
    }

    public int cached(int p) {
        return cache.rankOf(p);
    }

    private static boolean isKey(int key) {
        return key >= 0 && key < KEYS;
    }

    private static boolean isCopy(int g, int c) {
        return g >= 0 && g < GROUPS && c >= 0 && c < COPIES;
    }

    private static boolean isReplica(int r) {
        return r >= 0 && r < REPLICAS;
    }

    private static int pageOf(int key) {
        return key / KEYS_OF_A_PAGE;
    }

    private static int groupOfPage(int page) {
        return page % GROUPS;
    }

    private int refusalOfTransaction(int t) {
        if (!up) {
            return DOWN;
        }
        return transactions.isActive(t) ? OK : IDLE;
    }

    private int refusalOfKeys(int t, int a, int b) {
        int refusal = refusalOfTransaction(t);
        if (refusal != OK) {
            return refusal;
        }
        return transactions.mayHold(t, a) && transactions.mayHold(t, b) ? OK : LOCKED;
    }

    private int refusalOfChanges(int t, int a, int b) {
        int refusal = refusalOfKeys(t, a, b);
        if (refusal != OK) {
            return refusal;
        }
        return log.size >= FULL_LOG ? FULL : OK;
    }

    private int refusalOfCopy(int g, int c) {
        if (!isCopy(g, c)) {
            return BAD;
        }
        if (!up) {
            return DOWN;
        }
        return groups[g].copies[c].isLive() ? OK : AWAY;
    }

    /** The other page of the same call is named too, because it may not make room for this one. */
    private int touch(int page, int other) {
        if (cache.rankOf(page) > 0) {
            cache.remove(page);
            cache.append(page);
            return OK;
        }
        int leaving = pageThatMayGo(other);
        if (isAheadOfDurable(page) || (cache.isFull() && leaving == NO_PAGE)) {
            return STALL;
        }
        if (!groups[groupOfPage(page)].serves(durable, log)) {
            return AWAY;
        }
        if (cache.isFull()) {
            cache.remove(leaving);
        }
        cache.append(page);
        return OK;
    }

    private int pageThatMayGo(int other) {
        for (int i = 0; i < cache.count; i++) {
            int page = cache.pages[i];
            if (page != other && !isAheadOfDurable(page)) {
                return page;
            }
        }
        return NO_PAGE;
    }

    private boolean isAheadOfDurable(int page) {
        return log.latestOf(page) > durable;
    }

    private int completePoint() {
        int evenPoint = groups[0].quorumPoint();
        int oddPoint = groups[1].quorumPoint();
        int complete = 0;
        for (int l = 1; l <= log.size; l++) {
            if (l > (log.group[l] == 0 ? evenPoint : oddPoint)) {
                break;
            }
            complete = l;
        }
        return complete;
    }

    private void raiseDurable() {
        durable = Math.max(durable, log.lastCloseUpTo(completePoint()));
    }

    private int reachOfLiveCopies() {
        int reach = 0;
        for (int l = 1; l <= log.size; l++) {
            if (!groups[log.group[l]].liveCopyHolds(l)) {
                break;
            }
            reach = l;
        }
        return reach;
    }

    private void rollBackUnended() {
        for (int t = 1; t <= transactions.begun; t++) {
            if (log.end[t] == 0 && log.hasChangeOf(t)) {
                log.rollBack(t);
            }
        }
    }

    /** The records 1 .. size; row 0 of each array stays unused, so that a record's number is its row. */
    private static final class Log {
        // At most 151 records stand before only ENDs and rolling back may add some: 4 transactions
        // are ACTIVE then, with one END each and at most all 32 keys among them.
        private static final int CAPACITY = 151 + 4 + 32;
        private static final int OPEN_CHANGE = 0;
        private static final int CLOSING_CHANGE = 1;
        private static final int COMMIT_END = 2;
        private static final int ABORT_END = 3;
        private static final int NO_KEY = -1;

        private final int[] kind = new int[CAPACITY + 1];
        private final int[] owner = new int[CAPACITY + 1];
        private final int[] key = new int[CAPACITY + 1];
        private final int[] value = new int[CAPACITY + 1];
        private final int[] group = new int[CAPACITY + 1];
        // The END of each transaction, 0 when the log has none: to search for it would cost a walk
        // through the log at every record that a view or a low looks at.
        private final int[] end = new int[MAX_BEGUN + 1];
        private int size = 0;

        boolean has(int l) {
            return l >= 1 && l <= size;
        }

        int addChange(int t, int k, int newValue, boolean closing) {
            return add(closing ? CLOSING_CHANGE : OPEN_CHANGE, t, k, newValue, groupOfPage(pageOf(k)));
        }

        int addEnd(int t, boolean committing) {
            int l = add(committing ? COMMIT_END : ABORT_END, t, NO_KEY, 0, t % GROUPS);
            end[t] = Math.max(0, l);
            return l;
        }

        private int add(int newKind, int t, int k, int newValue, int newGroup) {
            // Never so by the count at CAPACITY; it keeps the rows safe all the same.
            if (size >= CAPACITY) {
                return FULL;
            }
            size++;
            kind[size] = newKind;
            owner[size] = t;
            key[size] = k;
            value[size] = newValue;
            group[size] = newGroup;
            return size;
        }

        int rollBack(int t) {
            for (int k = 0; k < KEYS; k++) {
                int first = firstChange(t, k);
                if (first > 0) {
                    addChange(t, k, valueUpTo(k, first - 1), false);
                }
            }
            return addEnd(t, false);
        }

        void cutAfter(int last) {
            size = Math.min(size, last);
            for (int t = 1; t <= MAX_BEGUN; t++) {
                if (end[t] > size) {
                    end[t] = 0;
                }
            }
        }

        boolean isEnd(int l) {
            return kind[l] == COMMIT_END || kind[l] == ABORT_END;
        }

        boolean commits(int l) {
            return kind[l] == COMMIT_END;
        }

        int lastCloseUpTo(int limit) {
            for (int l = limit; l >= 1; l--) {
                if (kind[l] != OPEN_CHANGE) {
                    return l;
                }
            }
            return 0;
        }

        int valueUpTo(int k, int limit) {
            for (int l = limit; l >= 1; l--) {
                if (key[l] == k) {
                    return value[l];
                }
            }
            return 0;
        }

        int endedValueUpTo(int k, int limit) {
            for (int l = limit; l >= 1; l--) {
                if (key[l] == k && isEndedBy(owner[l], limit)) {
                    return value[l];
                }
            }
            return 0;
        }

        int latestOf(int page) {
            for (int l = size; l >= 1; l--) {
                if (!isEnd(l) && pageOf(key[l]) == page) {
                    return l;
                }
            }
            return 0;
        }

        boolean isEndedBy(int t, int limit) {
            return end[t] > 0 && end[t] <= limit;
        }

        boolean hasChangeOf(int t) {
            for (int l = 1; l <= size; l++) {
                if (owner[l] == t && !isEnd(l)) {
                    return true;
                }
            }
            return false;
        }

        private int firstChange(int t, int k) {
            for (int l = 1; l <= size; l++) {
                if (owner[l] == t && key[l] == k) {
                    return l;
                }
            }
            return 0;
        }

        /** The first record of an unended transaction decides: later ones would only give more. */
        int lowOf(int limit) {
            for (int l = 1; l <= limit; l++) {
                if (!isEndedBy(owner[l], limit)) {
                    return l - 1;
                }
            }
            return limit;
        }
    }

    /** Which transactions were begun, which are ACTIVE, and which keys these hold. */
    private static final class Transactions {
        private static final int MAX_ACTIVE = 4;
        private static final int FREE = 0;

        private final boolean[] active = new boolean[MAX_BEGUN + 1];
        private final int[] holder = new int[KEYS];
        private int begun = 0;
        private int activeCount = 0;

        boolean isFull() {
            return activeCount >= MAX_ACTIVE || begun >= MAX_BEGUN;
        }

        int start() {
            begun++;
            active[begun] = true;
            activeCount++;
            return begun;
        }

        boolean isActive(int t) {
            return t >= 1 && t <= begun && active[t];
        }

        boolean mayHold(int t, int k) {
            return holder[k] == FREE || holder[k] == t;
        }

        void hold(int t, int k) {
            holder[k] = t;
        }

        void finish(int t) {
            active[t] = false;
            activeCount--;
            for (int k = 0; k < KEYS; k++) {
                if (holder[k] == t) {
                    holder[k] = FREE;
                }
            }
        }

        void finishAll() {
            for (int t = 1; t <= begun; t++) {
                if (active[t]) {
                    finish(t);
                }
            }
        }
    }

    /** The writer's pages, the one touched longest ago first. */
    private static final class Cache {
        private static final int MAX_PAGES = 4;

        private final int[] pages = new int[MAX_PAGES];
        private int count = 0;

        boolean isFull() {
            return count >= MAX_PAGES;
        }

        int rankOf(int page) {
            for (int i = 0; i < count; i++) {
                if (pages[i] == page) {
                    return count - i;
                }
            }
            return 0;
        }

        void append(int page) {
            if (count < MAX_PAGES) {
                pages[count] = page;
                count++;
            }
        }

        void remove(int page) {
            int left = 0;
            for (int i = 0; i < count; i++) {
                if (pages[i] != page) {
                    pages[left] = pages[i];
                    left++;
                }
            }
            count = left;
        }

        void clear() {
            count = 0;
        }
    }

    /** One storage copy of a group, with what the writer last heard of it. */
    private static final class StorageCopy {
        private static final int LIVE = 0;
        private static final int STOPPED = 1;
        private static final int LOST = 2;

        private final int group;
        private final boolean[] held = new boolean[Log.CAPACITY + 1];
        private int state = LIVE;
        private int fold = 0;
        private int reported = 0;

        StorageCopy(int itsGroup) {
            group = itsGroup;
        }

        boolean isLive() {
            return state == LIVE;
        }

        boolean change(int from, int to) {
            if (state != from) {
                return false;
            }
            state = to;
            return true;
        }

        boolean lose() {
            if (state == LOST) {
                return false;
            }
            state = LOST;
            dropAfter(0);
            fold = 0;
            reported = 0;
            return true;
        }

        boolean take(int l) {
            boolean isNew = !held[l];
            held[l] = true;
            return isNew;
        }

        int takeAllOf(StorageCopy other) {
            int taken = 0;
            for (int l = 1; l <= Log.CAPACITY; l++) {
                if (other.held[l] && take(l)) {
                    taken++;
                }
            }
            fold = Math.max(fold, other.fold);
            return taken;
        }

        void dropAfter(int last) {
            for (int l = last + 1; l <= Log.CAPACITY; l++) {
                held[l] = false;
            }
        }

        int reach(Log log) {
            int reach = 0;
            for (int l = 1; l <= log.size; l++) {
                if (log.group[l] == group) {
                    if (!held[l]) {
                        break;
                    }
                    reach = l;
                }
            }
            return reach;
        }

        void tellReach(Log log) {
            reported = reach(log);
        }

        boolean holdsAllUpTo(int limit, Log log) {
            for (int l = 1; l <= limit; l++) {
                if (log.group[l] == group && !held[l]) {
                    return false;
                }
            }
            return true;
        }

        int keptUpTo(int limit) {
            int kept = 0;
            for (int l = fold + 1; l <= limit; l++) {
                if (held[l]) {
                    kept++;
                }
            }
            return kept;
        }

        int foldUpTo(int limit) {
            int folded = keptUpTo(limit);
            fold = Math.max(fold, limit);
            return folded;
        }
    }

    private static final class Group {
        private final StorageCopy[] copies = new StorageCopy[COPIES];

        Group(int number) {
            for (int c = 0; c < COPIES; c++) {
                copies[c] = new StorageCopy(number);
            }
        }

        int liveCopies() {
            int live = 0;
            for (int c = 0; c < COPIES; c++) {
                if (copies[c].isLive()) {
                    live++;
                }
            }
            return live;
        }

        boolean liveCopyHolds(int l) {
            for (int c = 0; c < COPIES; c++) {
                if (copies[c].isLive() && copies[c].held[l]) {
                    return true;
                }
            }
            return false;
        }

        boolean serves(int limit, Log log) {
            for (int c = 0; c < COPIES; c++) {
                if (copies[c].isLive() && copies[c].holdsAllUpTo(limit, log)) {
                    return true;
                }
            }
            return false;
        }

        /** The greatest reported point that a quorum has reached: the fourth greatest of the six. */
        int quorumPoint() {
            int best = 0;
            for (int c = 0; c < COPIES; c++) {
                int candidate = copies[c].reported;
                if (candidate > best && copiesThatReported(candidate) >= QUORUM) {
                    best = candidate;
                }
            }
            return best;
        }

        private int copiesThatReported(int l) {
            int count = 0;
            for (int c = 0; c < COPIES; c++) {
                if (copies[c].reported >= l) {
                    count++;
                }
            }
            return count;
        }

        boolean repair(StorageCopy lost) {
            if (lost.state != StorageCopy.LOST || liveCopies() < LIVE_TO_REPAIR) {
                return false;
            }
            for (int c = 0; c < COPIES; c++) {
                if (copies[c].isLive()) {
                    lost.takeAllOf(copies[c]);
                }
            }
            lost.state = StorageCopy.LIVE;
            return true;
        }

        void dropAfter(int last) {
            for (int c = 0; c < COPIES; c++) {
                copies[c].dropAfter(last);
            }
        }

        void forgetReports() {
            for (int c = 0; c < COPIES; c++) {
                copies[c].reported = 0;
            }
        }

        void tellReaches(Log log) {
            for (int c = 0; c < COPIES; c++) {
                if (copies[c].isLive()) {
                    copies[c].tellReach(log);
                }
            }
        }
    }
}
