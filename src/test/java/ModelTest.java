import java.util.Random;

/** Runs of calls drawn from fixed seeds, in which RedoQuorum and PlainModel must answer alike. */
public final class ModelTest {
    private static final int RUNS = 3000;
    private static final int CALLS = 512;
    private static final String[] NAMES = {"begin", "read", "write", "shift", "commit", "abort", "deliver",
        "gossip", "report", "fault", "crash", "recover", "follow", "view", "collect", "status"};
    private static final int DELIVER = 6;
    private static final int FAULT = 9;
    private static final int RECOVER = 11;
    // How often each of NAMES comes, in runs of different kinds.
    private static final int[][] MOODS = {
        {6, 8, 14, 8, 5, 3, 40, 6, 4, 4, 1, 3, 4, 6, 5, 2},
        {8, 6, 40, 16, 2, 1, 2, 1, 1, 1, 0, 1, 1, 1, 1, 1},
        {10, 2, 14, 6, 10, 6, 4, 12, 8, 12, 4, 12, 4, 4, 6, 2},
        {6, 4, 8, 6, 8, 3, 60, 1, 1, 1, 1, 3, 8, 10, 8, 1},
        {12, 12, 12, 20, 6, 5, 60, 6, 2, 2, 1, 2, 2, 2, 2, 2},
        {20, 1, 2, 1, 16, 6, 12, 1, 1, 1, 1, 3, 2, 2, 2, 2},
        // Copies go and come while the writer stays up: touching and viewing are AWAY.
        {8, 24, 8, 12, 6, 4, 30, 2, 2, 24, 0, 1, 4, 12, 2, 1},
    };

    // The refusals of each of NAMES: runs that never met one of them would prove nothing of it.
    private static final int[][] REFUSALS = {{-2, -5}, {-1, -2, -3, -4, -6, -7}, {-1, -2, -3, -4, -5, -6, -7},
        {-1, -2, -3, -4, -5, -6, -7, -8}, {-2, -3}, {-2, -3}, {-1, 0}, {-1, -7}, {-1, -2, -7}, {0}, {0}, {-1, -7}, {-1, -2},
        {-1, -7}, {-1, -2, -7}, {0}};

    private final Random random;
    private final RedoQuorum real = new RedoQuorum();
    private final PlainModel model = new PlainModel();
    private final StringBuilder story = new StringBuilder();
    private final int[] mood;
    private final int keys;
    private final boolean breaking;
    private int spreading = 0;
    private int nextCopy = 6;

    private ModelTest(long seed) {
        random = new Random(seed);
        mood = MOODS[(int) (seed % MOODS.length)];
        keys = random.nextBoolean() ? 32 : random.nextBoolean() ? 16 : 6;
        breaking = seed % 5 == 0;
    }

    public static void main(String[] args) {
        int[] reached = new int[NAMES.length * 20];
        int longest = 0;
        for (int seed = 0; seed < RUNS && !Check.anyWrong(); seed++) {
            ModelTest run = new ModelTest(seed);
            for (int i = 0; i < CALLS && !Check.anyWrong(); i++) {
                run.oneCall(reached);
                if (i % 16 == 0 || i == CALLS - 1) {
                    run.lookAtAll();
                }
            }
            longest = Math.max(longest, run.model.log.size());
        }
        tell(reached, longest);
        Check.end();
    }

    private static void tell(int[] reached, int longest) {
        for (int name = 0; name < NAMES.length; name++) {
            for (int refusal : REFUSALS[name]) {
                Check.due(NAMES[name] + " was refused by " + refusal, reached[name * 20 + refusal + 8] > 0, true);
            }
            StringBuilder line = new StringBuilder(NAMES[name]).append(':');
            for (int a = 0; a < 20; a++) {
                if (reached[name * 20 + a] > 0) {
                    line.append(' ').append(a - 8).append(a == 19 ? "+" : "").append(" x").append(reached[name * 20 + a]);
                }
            }
            System.out.println(line);
        }
        System.out.println("the longest log had " + longest + " records");
    }

    private void oneCall(int[] reached) {
        int name = drawName();
        int[] a = drawArguments(name);
        if (NAMES[name].equals("deliver") && random.nextInt(4) > 0) {
            a = nextOfSpreading();
        }
        int want = ofModel(name, a);
        int got = ofReal(name, a);
        String call = NAMES[name] + "(" + a[0] + ", " + a[1] + ", " + a[2] + ", " + a[3] + ")";
        story.append(call).append(" = ").append(want).append('\n');
        reached[name * 20 + Math.min(want, 11) + 8]++;
        compare(call, got, want);
    }

    private void compare(String call, int got, int want) {
        Check.due(call, got, want);
        if (got != want) {
            System.out.println("after:\n" + story);
        }
    }

    /** A record goes to one copy after the other, in the log's order, or the durable point would stand still. */
    private int[] nextOfSpreading() {
        if (nextCopy > 5 || spreading > model.log.size()) {
            spreading = model.up ? model.complete() + 1 : 1 + random.nextInt(1 + model.log.size());
            nextCopy = random.nextInt(3);
        }
        nextCopy++;
        return new int[] {spreading, nextCopy - 1, 0, 0};
    }

    private int drawName() {
        if (!model.up && random.nextInt(4) == 0) {
            return random.nextBoolean() ? RECOVER : FAULT;
        }
        // The log would soon be too long to be spread at all.
        if (model.up && mood[DELIVER] >= 40 && model.log.size() > model.durable + 8 && random.nextInt(4) > 0) {
            return DELIVER;
        }
        int sum = 0;
        for (int weight : mood) {
            sum += weight;
        }
        int left = random.nextInt(sum);
        int name = 0;
        while (left >= mood[name]) {
            left -= mood[name];
            name++;
        }
        return name;
    }

    private int drawn(int least, int most) {
        int chance = random.nextInt(200);
        if (chance == 0) {
            return least - 1;
        }
        if (chance == 1) {
            return most + 1;
        }
        if (chance == 2) {
            return random.nextBoolean() ? Integer.MIN_VALUE : Integer.MAX_VALUE;
        }
        return most < least ? least : least + random.nextInt(most - least + 1);
    }

    private int drawnTransaction() {
        if (!model.active.isEmpty() && random.nextInt(20) > 0) {
            int at = random.nextInt(model.active.size());
            for (int t : model.active) {
                if (at == 0) {
                    return t;
                }
                at--;
            }
        }
        return drawn(1, model.begun);
    }

    private int drawnKey(int t) {
        boolean own = random.nextInt(3) == 0 && t >= 1 && t <= 60 && !model.heldKeys.get(t).isEmpty();
        return own ? model.heldKeys.get(t).iterator().next() : drawn(0, keys - 1);
    }

    private int[] drawArguments(int name) {
        int t = drawnTransaction();
        switch (NAMES[name]) {
            case "read":
                return new int[] {t, drawnKey(t), 0, 0};
            case "write":
                return new int[] {t, drawnKey(t), drawn(0, 9999), 0};
            case "shift":
                return new int[] {t, drawnKey(t), drawn(0, keys - 1), drawn(1, random.nextBoolean() ? 99 : 9999)};
            case "commit":
            case "abort":
                return new int[] {t, 0, 0, 0};
            case "status":
                return new int[] {drawn(1, 60), 0, 0, 0};
            case "deliver":
                return new int[] {drawn(1, model.log.size()), drawn(0, 5), 0, 0};
            case "gossip":
                return new int[] {drawn(0, 1), drawn(0, 5), drawn(0, 5), 0};
            case "fault":
                return new int[] {drawn(0, 1), drawn(0, 5), drawnFault(), 0};
            case "view":
                return new int[] {drawn(0, 1), drawn(0, keys - 1), 0, 0};
            default:
                return new int[] {drawn(0, 1), drawn(0, 5), 0, 0};
        }
    }

    /** Mostly more is mended than broken, or every group would soon be gone. */
    private int drawnFault() {
        int chance = random.nextInt(12);
        if (breaking && chance > 3) {
            return 0;
        }
        return chance < 2 ? 0 : chance < 6 ? 1 : chance < 7 ? 2 : chance < 11 ? 3 : drawn(0, 3);
    }

    private int ofModel(int name, int[] a) {
        switch (NAMES[name]) {
            case "begin":
                return model.begin();
            case "read":
                return model.read(a[0], a[1]);
            case "write":
                return model.write(a[0], a[1], a[2]);
            case "shift":
                return model.shift(a[0], a[1], a[2], a[3]);
            case "commit":
                return model.finish(a[0], true);
            case "abort":
                return model.finish(a[0], false);
            case "deliver":
                return model.deliver(a[0], a[1]);
            case "gossip":
                return model.gossip(a[0], a[1], a[2]);
            case "report":
                return model.report(a[0], a[1]);
            case "fault":
                return model.fault(a[0], a[1], a[2]) ? 1 : 0;
            case "crash":
                return model.crash() ? 1 : 0;
            case "recover":
                return model.recover();
            case "follow":
                return model.follow(a[0]);
            case "view":
                return model.view(a[0], a[1]);
            case "collect":
                return model.collect(a[0], a[1]);
            default:
                return model.status(a[0]);
        }
    }

    private int ofReal(int name, int[] a) {
        switch (NAMES[name]) {
            case "begin":
                return real.begin();
            case "read":
                return real.read(a[0], a[1]);
            case "write":
                return real.write(a[0], a[1], a[2]);
            case "shift":
                return real.shift(a[0], a[1], a[2], a[3]);
            case "commit":
                return real.commit(a[0]);
            case "abort":
                return real.abort(a[0]);
            case "deliver":
                return real.deliver(a[0], a[1]);
            case "gossip":
                return real.gossip(a[0], a[1], a[2]);
            case "report":
                return real.report(a[0], a[1]);
            case "fault":
                return real.fault(a[0], a[1], a[2]) ? 1 : 0;
            case "crash":
                return real.crash() ? 1 : 0;
            case "recover":
                return real.recover();
            case "follow":
                return real.follow(a[0]);
            case "view":
                return real.view(a[0], a[1]);
            case "collect":
                return real.collect(a[0], a[1]);
            default:
                return real.status(a[0]);
        }
    }

    /** All that can be seen without changing anything. */
    private void lookAtAll() {
        for (int what = 0; what < 3; what++) {
            compare("point(" + what + ")", real.point(what), model.point(what));
        }
        for (int g = 0; g < 2; g++) {
            for (int c = 0; c < 6; c++) {
                for (int what = 0; what < 3; what++) {
                    compare("copy(" + g + ", " + c + ", " + what + ")", real.copy(g, c, what), model.copy(g, c, what));
                }
            }
        }
        for (int p = 0; p < 8; p++) {
            compare("cached(" + p + ")", real.cached(p), model.cached(p));
        }
        for (int t = 0; t <= 61; t++) {
            compare("status(" + t + ")", real.status(t), model.status(t));
        }
        for (int key = 0; key < 32; key++) {
            compare("view(0, " + key + ")", real.view(0, key), model.view(0, key));
            compare("view(1, " + key + ")", real.view(1, key), model.view(1, key));
        }
    }
}
