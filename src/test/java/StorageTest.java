/** The storage copies' and the replicas' side: promises 9 to 12 and 16 to 19. */
public final class StorageTest {
    private static final int BAD = RedoQuorum.BAD;
    private static final int DOWN = RedoQuorum.DOWN;
    private static final int AWAY = RedoQuorum.AWAY;
    private static final int LEAST = Integer.MIN_VALUE;
    private static final int MOST = Integer.MAX_VALUE;

    public static void main(String[] args) {
        promise9Deliver();
        promise9DeliverReports();
        promise10Gossip();
        promise10GossipCarriesTheFold();
        promise10GossipRefused();
        promise11Report();
        promise11ReportRefused();
        promise12FaultStopsAndStarts();
        promise12FaultLoses();
        promise12FaultLosesWhatNoOtherHolds();
        promise12FaultRepairs();
        promise12FaultRepairsWithTheGreatestFold();
        promise12FaultOfNoCopy();
        promise16Copy();
        promise17Follow();
        promise18View();
        promise18ViewOfRolledBack();
        promise18ViewIsAway();
        promise19Collect();
        promise19CollectIsHeldBackByAViewsLow();
        promise19CollectNothingBehindTheFirstRecord();
        promise19CollectBehindTheLastRecord();
        promise19CollectUpToThePoint();
        promise19CollectRefused();
        Check.end();
    }

    private static void due(String call, long got, long want) {
        Check.due(call, got, want);
    }

    private static void due(String call, boolean got, boolean want) {
        Check.due(call, got, want);
    }

    /** Transaction 1 writes key 0 as often as said: records of group 0 alone, none delivered. */
    private static RedoQuorum written(int records) {
        RedoQuorum x = new RedoQuorum();
        due("begin()", x.begin(), 1);
        for (int l = 1; l <= records; l++) {
            due("write", x.write(1, 0, 10 * l), l);
        }
        return x;
    }

    private static void followAll(RedoQuorum x, int want) {
        due("follow(0)", x.follow(0), want);
        due("follow(1)", x.follow(1), want);
    }

    private static void promise9Deliver() {
        RedoQuorum x = written(2);
        due("9: new to the copy", x.deliver(2, 5), 2);
        due("9: a gap ahead of it", x.copy(0, 5, 1), 0);
        due("9: held all the same", x.copy(0, 5, 2), 1);
        due("9: held already", x.deliver(2, 5), 1);
        due("9: the gap closes", x.deliver(1, 5), 2);
        due("9: its point", x.copy(0, 5, 1), 2);
        due("9: other copies hold nothing", x.copy(0, 4, 2), 0);
        due("9: the other group holds nothing", x.copy(1, 5, 2), 0);
        due("9: deliver(0, 0)", x.deliver(0, 0), BAD);
        due("9: deliver(3, 0)", x.deliver(3, 0), BAD);
        due("9: deliver(-1, 0)", x.deliver(-1, 0), BAD);
        due("9: deliver(1, -1)", x.deliver(1, -1), BAD);
        due("9: deliver(1, 6)", x.deliver(1, 6), BAD);
        due("9: deliver(LEAST, 0)", x.deliver(LEAST, 0), BAD);
        due("9: deliver(MOST, 0)", x.deliver(MOST, 0), BAD);
        due("9: deliver(1, LEAST)", x.deliver(1, LEAST), BAD);
        due("9: deliver(1, MOST)", x.deliver(1, MOST), BAD);
        due("9: fault", x.fault(0, 5, 0), true);
        due("9: to a STOPPED copy", x.deliver(1, 5), 0);
        due("9: fault", x.fault(0, 4, 2), true);
        due("9: to a LOST copy", x.deliver(1, 4), 0);
        due("9: BAD ahead of 0", x.deliver(3, 5), BAD);
    }

    private static void promise9DeliverReports() {
        RedoQuorum x = written(1);
        due("9: crash()", x.crash(), true);
        for (int c = 0; c < 4; c++) {
            due("9: deliver while down", x.deliver(1, c), 2);
        }
        due("9: nothing is reported while down", x.point(2), 0);
        due("9: held already, while down", x.deliver(1, 0), 1);
        due("9: deliver(2, 0)", x.deliver(2, 0), BAD);
        RedoQuorum y = written(1);
        for (int c = 1; c < 4; c++) {
            due("9: deliver", y.deliver(1, c), 2);
        }
        due("9: gossip", y.gossip(0, 1, 0), 1);
        due("9: gossip is not reported", y.point(1), 0);
        due("9: held already", y.deliver(1, 0), 1);
        due("9: but reported now", y.point(1), 1);
        due("9: and durable", y.point(2), 1);
    }

    private static void promise10Gossip() {
        RedoQuorum x = written(4);
        due("10: deliver", x.deliver(1, 0), 2);
        due("10: deliver", x.deliver(3, 0), 2);
        due("10: deliver", x.deliver(4, 0), 2);
        due("10: deliver", x.deliver(1, 1), 2);
        due("10: deliver", x.deliver(2, 1), 2);
        due("10: two are new", x.gossip(0, 0, 1), 2);
        due("10: none is new", x.gossip(0, 0, 1), 0);
        due("10: its point", x.copy(0, 1, 1), 4);
        due("10: it keeps all", x.copy(0, 1, 2), 4);
        due("10: the source is as before", x.copy(0, 0, 1), 1);
        due("10: the source is as before", x.copy(0, 0, 2), 3);
        due("10: back", x.gossip(0, 1, 0), 1);
        due("10: on", x.gossip(0, 0, 5), 4);
        due("10: on", x.gossip(0, 5, 4), 4);
        due("10: the other group", x.gossip(1, 0, 1), 0);
        due("10: nothing is reported", x.point(1), 0);
        due("10: crash()", x.crash(), true);
        due("10: while down", x.gossip(0, 4, 3), 4);
    }

    private static void promise10GossipCarriesTheFold() {
        RedoQuorum x = new RedoQuorum();
        Check.committed(x, 0, 1);
        Check.committed(x, 0, 2);
        followAll(x, 4);
        due("10: collect", x.collect(0, 0), 3);
        due("10: deliver", x.deliver(1, 4), 2);
        due("10: two are new", x.gossip(0, 0, 4), 2);
        due("10: the fold comes along", x.copy(0, 4, 2), 0);
        due("10: none is new", x.gossip(0, 1, 4), 0);
        due("10: a lesser fold does not", x.copy(0, 4, 2), 0);
        due("10: none is new", x.gossip(0, 0, 1), 0);
        due("10: the fold comes all the same", x.copy(0, 1, 2), 0);
    }

    private static void promise10GossipRefused() {
        RedoQuorum x = written(1);
        int[][] wrong = {{-1, 0, 1}, {2, 0, 1}, {0, -1, 1}, {0, 6, 1}, {0, 0, -1}, {0, 0, 6}, {0, 3, 3},
            {LEAST, 0, 1}, {MOST, 0, 1}, {0, LEAST, 1}, {0, MOST, 1}, {0, 0, LEAST}, {0, 0, MOST}};
        for (int[] w : wrong) {
            due("10: gossip(" + w[0] + ", " + w[1] + ", " + w[2] + ")", x.gossip(w[0], w[1], w[2]), BAD);
        }
        due("10: deliver", x.deliver(1, 0), 2);
        due("10: fault", x.fault(0, 0, 0), true);
        due("10: from a STOPPED copy", x.gossip(0, 0, 1), AWAY);
        due("10: to a STOPPED copy", x.gossip(0, 1, 0), AWAY);
        due("10: BAD ahead of AWAY", x.gossip(0, 0, 0), BAD);
        due("10: fault", x.fault(0, 2, 2), true);
        due("10: from a LOST copy", x.gossip(0, 2, 1), AWAY);
        due("10: to a LOST copy", x.gossip(0, 1, 2), AWAY);
        due("10: nothing came", x.copy(0, 1, 2), 0);
    }

    private static void promise11Report() {
        RedoQuorum x = written(3);
        for (int l = 1; l <= 2; l++) {
            due("11: deliver", x.deliver(l, 0), 2);
        }
        for (int c = 1; c < 4; c++) {
            due("11: gossip", x.gossip(0, 0, c), 2);
            due("11: not reported yet", x.point(1), 0);
            due("11: report(0, " + c + ")", x.report(0, c), 2);
        }
        due("11: reported by four", x.point(1), 2);
        due("11: durable", x.point(2), 2);
        due("11: report of an empty copy", x.report(0, 4), 0);
        due("11: report of the other group", x.report(1, 0), 0);
        due("11: deliver", x.deliver(3, 5), 2);
        due("11: report of a copy with a gap", x.report(0, 5), 0);
    }

    private static void promise11ReportRefused() {
        RedoQuorum x = written(1);
        int[][] wrong = {{-1, 0}, {2, 0}, {0, -1}, {0, 6}, {LEAST, 0}, {MOST, 0}, {0, LEAST}, {0, MOST}};
        for (int[] w : wrong) {
            due("11: report(" + w[0] + ", " + w[1] + ")", x.report(w[0], w[1]), BAD);
        }
        due("11: fault", x.fault(0, 0, 0), true);
        due("11: a STOPPED copy", x.report(0, 0), AWAY);
        due("11: fault", x.fault(0, 1, 2), true);
        due("11: a LOST copy", x.report(0, 1), AWAY);
        due("11: crash()", x.crash(), true);
        due("11: BAD ahead of DOWN", x.report(0, 6), BAD);
        due("11: DOWN ahead of AWAY", x.report(0, 0), DOWN);
        due("11: DOWN", x.report(0, 2), DOWN);
    }

    private static void promise12FaultStopsAndStarts() {
        RedoQuorum x = written(1);
        Check.toQuorum(x, 1, 1);
        due("12: starting a LIVE one", x.fault(0, 0, 1), false);
        due("12: repairing a LIVE one", x.fault(0, 0, 3), false);
        due("12: stopping it", x.fault(0, 0, 0), true);
        due("12: it is STOPPED", x.copy(0, 0, 0), 1);
        due("12: the others are not", x.copy(0, 1, 0), 0);
        due("12: the others are not", x.copy(1, 0, 0), 0);
        due("12: its reported point stays", x.point(1), 1);
        due("12: stopping it again", x.fault(0, 0, 0), false);
        due("12: repairing a STOPPED one", x.fault(0, 0, 3), false);
        due("12: starting it", x.fault(0, 0, 1), true);
        due("12: it is LIVE", x.copy(0, 0, 0), 0);
        due("12: it holds what it held", x.copy(0, 0, 1), 1);
        due("12: starting it again", x.fault(0, 0, 1), false);
    }

    private static void promise12FaultLoses() {
        RedoQuorum x = new RedoQuorum();
        Check.committed(x, 0, 1);
        followAll(x, 2);
        due("12: collect", x.collect(0, 0), 1);
        due("12: losing a LIVE one", x.fault(0, 0, 2), true);
        due("12: it is LOST", x.copy(0, 0, 0), 2);
        due("12: its reported point is 0", x.point(1), 0);
        due("12: losing it again", x.fault(0, 0, 2), false);
        due("12: stopping a LOST one", x.fault(0, 0, 0), false);
        due("12: starting a LOST one", x.fault(0, 0, 1), false);
        due("12: stopping", x.fault(0, 1, 0), true);
        due("12: losing a STOPPED one", x.fault(0, 1, 2), true);
        due("12: it is LOST", x.copy(0, 1, 0), 2);
        due("12: repairing", x.fault(0, 0, 3), true);
        due("12: its fold was 0, and is none of a LIVE copy", x.copy(0, 0, 2), 1);
        due("12: its reported point is 0 still", x.point(1), 0);
        due("12: report", x.report(0, 0), 1);
        due("12: three reported", x.point(1), 0);
        due("12: repairing", x.fault(0, 1, 3), true);
        due("12: report", x.report(0, 1), 1);
        due("12: four reported", x.point(1), 2);
    }

    private static void promise12FaultLosesWhatNoOtherHolds() {
        RedoQuorum x = written(2);
        due("12: deliver", x.deliver(1, 0), 2);
        due("12: deliver", x.deliver(2, 0), 2);
        due("12: losing", x.fault(0, 0, 2), true);
        due("12: repairing", x.fault(0, 0, 3), true);
        due("12: nothing is held", x.copy(0, 0, 2), 0);
        due("12: new to it", x.deliver(1, 0), 2);
    }

    private static void promise12FaultRepairs() {
        RedoQuorum x = written(4);
        due("12: deliver", x.deliver(1, 0), 2);
        due("12: deliver", x.deliver(3, 1), 2);
        due("12: deliver", x.deliver(2, 2), 2);
        due("12: deliver", x.deliver(4, 3), 2);
        due("12: losing", x.fault(0, 5, 2), true);
        due("12: losing", x.fault(0, 4, 2), true);
        due("12: stopping", x.fault(0, 3, 0), true);
        due("12: repairing with 3 LIVE", x.fault(0, 5, 3), true);
        due("12: it holds what LIVE copies hold", x.copy(0, 5, 1), 3);
        due("12: and not what a STOPPED one holds", x.copy(0, 5, 2), 3);
        due("12: repairing again", x.fault(0, 5, 3), false);
        due("12: stopping", x.fault(0, 0, 0), true);
        due("12: stopping", x.fault(0, 1, 0), true);
        due("12: repairing with 2 LIVE", x.fault(0, 4, 3), false);
        due("12: it is LOST still", x.copy(0, 4, 0), 2);
        due("12: the other group does not count", x.copy(1, 0, 0), 0);
        due("12: crash()", x.crash(), true);
        due("12: starting while down", x.fault(0, 0, 1), true);
        due("12: repairing while down", x.fault(0, 4, 3), true);
        due("12: its point", x.copy(0, 4, 1), 3);
    }

    private static void promise12FaultRepairsWithTheGreatestFold() {
        RedoQuorum x = new RedoQuorum();
        Check.committed(x, 0, 1);
        followAll(x, 2);
        due("12: collect", x.collect(0, 0), 1);
        Check.committed(x, 0, 2);
        followAll(x, 4);
        due("12: collect", x.collect(0, 1), 3);
        due("12: losing", x.fault(0, 2, 2), true);
        due("12: repairing", x.fault(0, 2, 3), true);
        due("12: its point", x.copy(0, 2, 1), 4);
        due("12: the greatest fold", x.copy(0, 2, 2), 0);
        due("12: stopping", x.fault(0, 1, 0), true);
        due("12: losing", x.fault(0, 2, 2), true);
        due("12: repairing", x.fault(0, 2, 3), true);
        due("12: the greatest fold of LIVE copies", x.copy(0, 2, 2), 2);
    }

    private static void promise12FaultOfNoCopy() {
        RedoQuorum x = written(1);
        int[][] wrong = {{-1, 0, 0}, {2, 0, 0}, {0, -1, 0}, {0, 6, 0}, {0, 0, -1}, {0, 0, 4},
            {LEAST, 0, 0}, {MOST, 0, 0}, {0, LEAST, 0}, {0, MOST, 0}, {0, 0, LEAST}, {0, 0, MOST}};
        for (int[] w : wrong) {
            due("12: fault(" + w[0] + ", " + w[1] + ", " + w[2] + ")", x.fault(w[0], w[1], w[2]), false);
        }
        for (int c = 0; c < 6; c++) {
            due("12: nothing changed", x.copy(0, c, 0), 0);
            due("12: nothing changed", x.copy(1, c, 0), 0);
        }
    }

    private static void promise16Copy() {
        RedoQuorum x = new RedoQuorum();
        Check.committed(x, 4, 1);
        Check.committed(x, 4, 2);
        followAll(x, 4);
        due("16: state", x.copy(1, 3, 0), 0);
        due("16: point", x.copy(1, 3, 1), 3);
        due("16: kept", x.copy(1, 3, 2), 3);
        due("16: point of the other group", x.copy(0, 3, 1), 4);
        due("16: kept by the other group", x.copy(0, 3, 2), 1);
        due("16: collect", x.collect(1, 3), 3);
        due("16: point", x.copy(1, 3, 1), 3);
        due("16: none kept", x.copy(1, 3, 2), 0);
        int[][] wrong = {{-1, 0, 0}, {2, 0, 0}, {0, -1, 0}, {0, 6, 0}, {0, 0, -1}, {0, 0, 3},
            {LEAST, 0, 0}, {MOST, 0, 0}, {0, LEAST, 0}, {0, MOST, 0}, {0, 0, LEAST}, {0, 0, MOST}};
        for (int[] w : wrong) {
            due("16: copy(" + w[0] + ", " + w[1] + ", " + w[2] + ")", x.copy(w[0], w[1], w[2]), BAD);
        }
        due("16: crash()", x.crash(), true);
        due("16: point while down", x.copy(1, 2, 1), 3);
        due("16: fault", x.fault(1, 2, 0), true);
        due("16: fault", x.fault(1, 1, 2), true);
        for (int c = 1; c <= 2; c++) {
            due("16: state", x.copy(1, c, 0), 3 - c);
            due("16: point of one that is not LIVE", x.copy(1, c, 1), BAD);
            due("16: kept by one that is not LIVE", x.copy(1, c, 2), BAD);
            due("16: copy(1, c, 3)", x.copy(1, c, 3), BAD);
        }
    }

    private static void promise17Follow() {
        RedoQuorum x = new RedoQuorum();
        due("17: follow(0)", x.follow(0), 0);
        Check.committed(x, 0, 7);
        due("17: the view did not move", x.view(0, 0), 0);
        due("17: follow(1)", x.follow(1), 2);
        due("17: view(1, 0)", x.view(1, 0), 7);
        due("17: replica 0 did not follow", x.view(0, 0), 0);
        due("17: follow(0)", x.follow(0), 2);
        due("17: view(0, 0)", x.view(0, 0), 7);
        int[] none = {-1, 2, LEAST, MOST};
        for (int r : none) {
            due("17: follow(" + r + ")", x.follow(r), BAD);
        }
        due("17: crash()", x.crash(), true);
        due("17: BAD ahead of DOWN", x.follow(2), BAD);
        due("17: DOWN", x.follow(0), DOWN);
        due("17: a replica reads while the writer is down", x.view(0, 0), 7);
        due("17: recover()", x.recover(), 2);
        due("17: view(0, 0)", x.view(0, 0), 7);
    }

    private static void promise18View() {
        RedoQuorum x = new RedoQuorum();
        due("18: begin()", x.begin(), 1);
        due("18: begin()", x.begin(), 2);
        due("18: write", x.write(1, 0, 5), 1);
        due("18: write", x.write(2, 8, 6), 2);
        due("18: commit(1)", x.commit(1), 3);
        due("18: begin()", x.begin(), 3);
        due("18: write", x.write(3, 0, 9), 4);
        Check.toQuorum(x, 1, 2);
        due("18: follow(0)", x.follow(0), 2);
        due("18: no END up to the view", x.view(0, 0), 0);
        Check.toQuorum(x, 3, 4);
        due("18: the view did not move", x.view(0, 0), 0);
        due("18: follow(0)", x.follow(0), 4);
        due("18: the greater change has no END", x.view(0, 0), 5);
        due("18: another key", x.view(0, 8), 0);
        due("18: commit(3)", x.commit(3), 5);
        due("18: write", x.write(2, 8, 7), 6);
        due("18: commit(2)", x.commit(2), 7);
        Check.toQuorum(x, 5, 6);
        due("18: follow(1)", x.follow(1), 6);
        due("18: the END came", x.view(1, 0), 9);
        due("18: the END of 2 is not up to the view", x.view(1, 8), 0);
        due("18: the older view stays", x.view(0, 0), 5);
        Check.toQuorum(x, 7, 7);
        due("18: follow(1)", x.follow(1), 7);
        due("18: the greatest change", x.view(1, 8), 7);
        due("18: a key without a change", x.view(1, 31), 0);
        int[][] wrong = {{-1, 0}, {2, 0}, {0, -1}, {0, 32}, {LEAST, 0}, {MOST, 0}, {0, LEAST}, {0, MOST}};
        for (int[] w : wrong) {
            due("18: view(" + w[0] + ", " + w[1] + ")", x.view(w[0], w[1]), BAD);
        }
    }

    private static void promise18ViewOfRolledBack() {
        RedoQuorum x = new RedoQuorum();
        Check.committed(x, 0, 5);
        due("18: begin()", x.begin(), 2);
        due("18: write", x.write(2, 0, 6), 3);
        due("18: abort(2)", x.abort(2), 5);
        Check.toQuorum(x, 3, 4);
        due("18: the change of rolling back does not close", x.follow(0), 3);
        due("18: view(0, 0)", x.view(0, 0), 5);
        Check.toQuorum(x, 5, 5);
        due("18: follow(1)", x.follow(1), 5);
        due("18: view(1, 0)", x.view(1, 0), 5);
    }

    private static void promise18ViewIsAway() {
        RedoQuorum x = new RedoQuorum();
        for (int c = 0; c < 6; c++) {
            due("18: fault", x.fault(0, c, 0), true);
        }
        due("18: no LIVE copy at all", x.view(0, 0), AWAY);
        due("18: BAD ahead of AWAY", x.view(2, 0), BAD);
        due("18: the other group", x.view(0, 4), 0);
        RedoQuorum y = new RedoQuorum();
        Check.committed(y, 0, 5);
        due("18: follow(0)", y.follow(0), 2);
        for (int c = 0; c < 4; c++) {
            due("18: fault", y.fault(0, c, 0), true);
        }
        due("18: LIVE copies that lack a record up to the view", y.view(0, 0), AWAY);
        due("18: for any key of the group", y.view(0, 31 - 4), AWAY);
        due("18: a lesser view", y.view(1, 0), 0);
        due("18: the other group", y.view(0, 4), 0);
        due("18: deliver", y.deliver(1, 4), 2);
        due("18: one that lacks none", y.view(0, 0), 5);
        for (int c = 0; c < 4; c++) {
            due("18: fault", y.fault(1, c, 2), true);
        }
        due("18: the END of the other group is lost to copies", y.view(0, 0), 5);
        due("18: the other group", y.view(0, 4), AWAY);
    }

    private static void promise19Collect() {
        RedoQuorum x = new RedoQuorum();
        Check.committed(x, 0, 1);
        Check.committed(x, 8, 2);
        due("19: views at 0", x.collect(0, 0), 0);
        due("19: follow(0)", x.follow(0), 4);
        due("19: one view at 0", x.collect(0, 0), 0);
        due("19: follow(1)", x.follow(1), 4);
        due("19: records of its own group", x.collect(0, 0), 3);
        due("19: again", x.collect(0, 0), 0);
        due("19: the other group", x.collect(1, 1), 1);
        due("19: none kept", x.copy(0, 0, 2), 0);
        due("19: the others keep", x.copy(0, 1, 2), 3);
        due("19: a copy without records", x.collect(0, 5), 0);
        Check.committed(x, 0, 3);
        due("19: up to the views", x.collect(0, 0), 0);
        due("19: one kept", x.copy(0, 0, 2), 1);
        due("19: follow(0)", x.follow(0), 6);
        due("19: up to the lesser view", x.collect(0, 1), 3);
        due("19: follow(1)", x.follow(1), 6);
        due("19: the rest", x.collect(0, 1), 1);
        due("19: the rest", x.collect(0, 0), 1);
        due("19: folded records are read", x.view(0, 0), 3);
    }

    private static void promise19CollectIsHeldBackByAViewsLow() {
        RedoQuorum x = new RedoQuorum();
        Check.committed(x, 0, 1);
        due("19: begin()", x.begin(), 2);
        due("19: write", x.write(2, 8, 1), 3);
        Check.toQuorum(x, 3, 3);
        Check.committed(x, 0, 3);
        followAll(x, 5);
        due("19: ahead of the first record without an END", x.collect(0, 0), 1);
        due("19: two kept", x.copy(0, 0, 2), 2);
        due("19: commit(2)", x.commit(2), 6);
        due("19: the END is not durable", x.collect(0, 0), 0);
        Check.toQuorum(x, 6, 6);
        due("19: the views are ahead of the END", x.collect(0, 0), 0);
        due("19: follow(1)", x.follow(1), 6);
        due("19: replica 0 is ahead of the END", x.collect(0, 0), 0);
        due("19: begin()", x.begin(), 4);
        due("19: write", x.write(4, 0, 4), 7);
        Check.toQuorum(x, 7, 7);
        due("19: follow(0)", x.follow(0), 7);
        due("19: the low of replica 0 and the view of replica 1", x.collect(0, 0), 3);
        due("19: the newest is kept", x.copy(0, 0, 2), 1);
    }

    private static void promise19CollectNothingBehindTheFirstRecord() {
        RedoQuorum x = new RedoQuorum();
        due("19: begin()", x.begin(), 1);
        due("19: write", x.write(1, 0, 1), 1);
        Check.toQuorum(x, 1, 1);
        Check.committed(x, 8, 1);
        followAll(x, 3);
        due("19: record 1 has no END", x.collect(0, 0), 0);
        due("19: all kept", x.copy(0, 0, 2), 3);
    }

    private static void promise19CollectBehindTheLastRecord() {
        RedoQuorum x = new RedoQuorum();
        Check.committed(x, 0, 1);
        due("19: begin()", x.begin(), 2);
        due("19: write", x.write(2, 0, 2), 3);
        Check.toQuorum(x, 3, 3);
        followAll(x, 3);
        due("19: the record of the view itself has no END", x.collect(0, 0), 1);
        due("19: one kept", x.copy(0, 0, 2), 1);
    }

    private static void promise19CollectUpToThePoint() {
        RedoQuorum x = new RedoQuorum();
        Check.committed(x, 0, 1);
        Check.committed(x, 0, 2);
        Check.committed(x, 8, 3);
        followAll(x, 6);
        due("19: deliver", x.deliver(1, 5), 2);
        due("19: deliver", x.deliver(3, 5), 2);
        due("19: deliver", x.deliver(5, 5), 2);
        due("19: up to its own point", x.collect(0, 5), 2);
        due("19: kept behind the gap", x.copy(0, 5, 2), 1);
        due("19: deliver", x.deliver(4, 5), 2);
        due("19: two kept", x.copy(0, 5, 2), 2);
        due("19: the rest", x.collect(0, 5), 2);
    }

    private static void promise19CollectRefused() {
        RedoQuorum x = written(1);
        int[][] wrong = {{-1, 0}, {2, 0}, {0, -1}, {0, 6}, {LEAST, 0}, {MOST, 0}, {0, LEAST}, {0, MOST}};
        for (int[] w : wrong) {
            due("19: collect(" + w[0] + ", " + w[1] + ")", x.collect(w[0], w[1]), BAD);
        }
        due("19: fault", x.fault(0, 0, 0), true);
        due("19: a STOPPED copy", x.collect(0, 0), AWAY);
        due("19: fault", x.fault(0, 1, 2), true);
        due("19: a LOST copy", x.collect(0, 1), AWAY);
        due("19: crash()", x.crash(), true);
        due("19: BAD ahead of DOWN", x.collect(0, 6), BAD);
        due("19: DOWN ahead of AWAY", x.collect(0, 0), DOWN);
        due("19: DOWN", x.collect(0, 2), DOWN);
    }
}
