/** The writer's side: promises 1 to 8, 13 to 15 and 20, one method or more for each. */
public final class WriterTest {
    private static final int BAD = RedoQuorum.BAD;
    private static final int DOWN = RedoQuorum.DOWN;
    private static final int IDLE = RedoQuorum.IDLE;
    private static final int LOCKED = RedoQuorum.LOCKED;
    private static final int FULL = RedoQuorum.FULL;
    private static final int STALL = RedoQuorum.STALL;
    private static final int AWAY = RedoQuorum.AWAY;
    private static final int SHORT = RedoQuorum.SHORT;

    public static void main(String[] args) {
        promise1NewObject();
        promise2Begin();
        promise2BeginInAFullLog();
        promise3Read();
        promise3ReadRefused();
        promise4Write();
        promise4WriteRefused();
        promise5Shift();
        promise5ShiftRefused();
        promise5ShiftLeavesTheCacheTouched();
        promise5ShiftKeepsItsOwnPages();
        promise6Commit();
        promise7Abort();
        promise7AbortGivesBackWhatWasAhead();
        promise7AbortTouchesNoPage();
        promise7AbortInTheFullestLog();
        promise8Status();
        promise8StatusAfterACut();
        promise13Crash();
        promise14RecoverRefused();
        promise14RecoverCutsTheLog();
        promise14RecoverStopsAtAGap();
        promise14RecoverRollsBackInOrder();
        promise14RecoverReports();
        promise14RecoverFreesKeysAndTransactions();
        promise14RecoverTwice();
        promise15Point();
        promise20Cached();
        touchingIsAway();
        touchingStallsAheadOfAway();
        Check.end();
    }

    private static void due(String call, long got, long want) {
        Check.due(call, got, want);
    }

    private static void due(String call, boolean got, boolean want) {
        Check.due(call, got, want);
    }

    private static RedoQuorum started() {
        RedoQuorum x = new RedoQuorum();
        due("begin()", x.begin(), 1);
        return x;
    }

    /** Transaction 1 fills the log up to the given number of records with changes of key 0. */
    private static RedoQuorum filled(int records) {
        RedoQuorum x = started();
        for (int l = 1; l <= records; l++) {
            due("write(1, 0, " + l + ")", x.write(1, 0, l), l);
        }
        return x;
    }

    private static void stopAll(RedoQuorum x, int g) {
        for (int c = 0; c < 6; c++) {
            due("fault(" + g + ", " + c + ", 0)", x.fault(g, c, 0), true);
        }
    }

    private static void promise1NewObject() {
        RedoQuorum x = new RedoQuorum();
        for (int what = 0; what <= 2; what++) {
            due("1: point(" + what + ")", x.point(what), 0);
        }
        for (int g = 0; g < 2; g++) {
            for (int c = 0; c < 6; c++) {
                for (int what = 0; what <= 2; what++) {
                    due("1: copy of a new object", x.copy(g, c, what), 0);
                }
            }
        }
        for (int key = 0; key < 32; key++) {
            due("1: view(0, " + key + ")", x.view(0, key), 0);
            due("1: view(1, " + key + ")", x.view(1, key), 0);
        }
        Check.cacheDue(x, "00000000");
        due("1: status(1)", x.status(1), 0);
        due("1: deliver(1, 0)", x.deliver(1, 0), BAD);
        due("1: begin()", x.begin(), 1);
        for (int key = 0; key < 32; key++) {
            due("1: read(1, " + key + ")", x.read(1, key), 0);
        }
        due("1: recover()", x.recover(), BAD);
    }

    private static void promise2Begin() {
        RedoQuorum x = new RedoQuorum();
        for (int t = 1; t <= 4; t++) {
            due("2: begin()", x.begin(), t);
        }
        due("2: begin() with 4 ACTIVE", x.begin(), FULL);
        due("2: status(5)", x.status(5), 0);
        due("2: commit(2)", x.commit(2), 1);
        due("2: begin()", x.begin(), 5);
        due("2: begin() with 4 ACTIVE", x.begin(), FULL);
        due("2: abort(5)", x.abort(5), 2);
        for (int t = 6; t <= 60; t++) {
            due("2: begin()", x.begin(), t);
            due("2: commit(" + t + ")", x.commit(t), t - 3);
        }
        due("2: commit(1)", x.commit(1), 58);
        due("2: begin() after 60", x.begin(), FULL);
        due("2: status(60)", x.status(60), 2);
        due("2: status(61)", x.status(61), 0);
        due("2: crash()", x.crash(), true);
        due("2: DOWN ahead of FULL", x.begin(), DOWN);
        due("2: recover()", x.recover(), 0);
        due("2: begun ones count after a crash too", x.begin(), FULL);
        due("2: nothing of it is in the log", x.status(60), 5);
    }

    private static void promise2BeginInAFullLog() {
        RedoQuorum x = filled(149);
        due("2: begin() with 149 records", x.begin(), 2);
        due("2: write", x.write(1, 0, 7), 150);
        due("2: begin() with 150 records", x.begin(), FULL);
        due("2: commit(2)", x.commit(2), 151);
        due("2: begin() with 151 records", x.begin(), FULL);
        due("2: crash()", x.crash(), true);
        due("2: recover()", x.recover(), 0);
        due("2: begin() with an empty log again", x.begin(), 3);
    }

    private static void promise3Read() {
        RedoQuorum x = started();
        due("3: read", x.read(1, 5), 0);
        Check.cacheDue(x, "01000000");
        due("3: write", x.write(1, 5, 77), 1);
        due("3: read of its own change", x.read(1, 5), 77);
        due("3: read of another key of the page", x.read(1, 6), 0);
        due("3: begin()", x.begin(), 2);
        due("3: read of a key that was read", x.read(2, 6), LOCKED);
        due("3: write of a key that was read", x.write(2, 6, 1), LOCKED);
        due("3: commit(1)", x.commit(1), 2);
        due("3: read of a free key", x.read(2, 6), 0);
        due("3: read of a free key", x.read(2, 5), 77);
        due("3: point(0)", x.point(0), 2);
        RedoQuorum y = filled(150);
        due("3: read in a full log", y.read(1, 0), 150);
        due("3: read in a full log", y.read(1, 31), 0);
    }

    private static void promise3ReadRefused() {
        RedoQuorum x = started();
        int[] noKeys = {-1, 32, Integer.MIN_VALUE, Integer.MAX_VALUE};
        for (int key : noKeys) {
            due("3: read(1, " + key + ")", x.read(1, key), BAD);
        }
        int[] noTransactions = {0, -1, 2, 61, Integer.MIN_VALUE, Integer.MAX_VALUE};
        for (int t : noTransactions) {
            due("3: read(" + t + ", 0)", x.read(t, 0), IDLE);
        }
        Check.cacheDue(x, "00000000");
        due("3: begin()", x.begin(), 2);
        due("3: read", x.read(1, 0), 0);
        due("3: commit(2)", x.commit(2), 1);
        due("3: IDLE ahead of LOCKED", x.read(2, 0), IDLE);
        due("3: begin()", x.begin(), 3);
        for (int page = 1; page <= 4; page++) {
            due("3: write", x.write(1, 4 * page, page), page + 1);
        }
        Check.cacheDue(x, "04321000");
        due("3: LOCKED ahead of STALL", x.read(3, 0), LOCKED);
        due("3: STALL", x.read(1, 0), STALL);
        due("3: STALL", x.read(3, 20), STALL);
        due("3: LOCKED does not touch", x.read(3, 4), LOCKED);
        Check.cacheDue(x, "04321000");
        Check.toQuorum(x, 1, 2);
        due("3: a refused read holds nothing", x.read(1, 20), 0);
        Check.cacheDue(x, "00432100");
        due("3: crash()", x.crash(), true);
        due("3: BAD ahead of DOWN", x.read(9, 32), BAD);
        due("3: DOWN ahead of IDLE", x.read(9, 0), DOWN);
        due("3: DOWN", x.read(1, 0), DOWN);
    }

    private static void promise4Write() {
        RedoQuorum x = started();
        due("4: write", x.write(1, 31, 9999), 1);
        due("4: write", x.write(1, 31, 0), 2);
        due("4: write", x.write(1, 0, 12), 3);
        due("4: read", x.read(1, 31), 0);
        Check.cacheDue(x, "20000001");
        due("4: begin()", x.begin(), 2);
        due("4: read of a key that was written", x.read(2, 0), LOCKED);
        due("4: write of a key that was written", x.write(2, 31, 5), LOCKED);
        due("4: point(0)", x.point(0), 3);
        due("4: deliver to group 1", x.deliver(1, 0), 2);
        due("4: the group of key 31 is 1", x.copy(1, 0, 1), 1);
        due("4: the group of key 31 is 1", x.copy(0, 0, 2), 0);
        due("4: deliver to group 0", x.deliver(3, 0), 2);
        due("4: the group of key 0 is 0", x.copy(0, 0, 1), 3);
        RedoQuorum y = started();
        due("4: write", y.write(1, 3, 8), 1);
        Check.toQuorum(y, 1, 1);
        due("4: a write closes", y.point(2), 1);
        due("4: write", y.write(1, 3, 0), 2);
        Check.toQuorum(y, 2, 2);
        due("4: a write closes", y.point(2), 2);
    }

    private static void promise4WriteRefused() {
        RedoQuorum x = filled(147);
        due("4: begin()", x.begin(), 2);
        due("4: write(1, -1, 0)", x.write(1, -1, 0), BAD);
        due("4: write(1, 32, 0)", x.write(1, 32, 0), BAD);
        due("4: write(1, 0, -1)", x.write(1, 0, -1), BAD);
        due("4: write(1, 0, 10000)", x.write(1, 0, 10000), BAD);
        due("4: BAD ahead of IDLE", x.write(3, 0, 10000), BAD);
        due("4: write(3, 0, 1)", x.write(3, 0, 1), IDLE);
        due("4: write(0, 0, 1)", x.write(0, 0, 1), IDLE);
        due("4: write", x.write(2, 4, 1), 148);
        due("4: write the 149th", x.write(2, 8, 1), 149);
        due("4: write the 150th", x.write(2, 12, 1), 150);
        due("4: write a 151st", x.write(2, 9, 1), FULL);
        due("4: FULL ahead of STALL", x.write(2, 16, 1), FULL);
        due("4: LOCKED ahead of FULL", x.write(2, 0, 1), LOCKED);
        due("4: IDLE ahead of FULL", x.write(3, 0, 1), IDLE);
        Check.cacheDue(x, "43210000");
        due("4: FULL holds nothing", x.read(1, 9), 0);
        due("4: read", x.read(1, 0), 147);
        due("4: crash()", x.crash(), true);
        due("4: BAD ahead of DOWN", x.write(1, 0, 10000), BAD);
        due("4: DOWN ahead of IDLE", x.write(9, 0, 1), DOWN);
    }

    private static void promise5Shift() {
        RedoQuorum x = started();
        due("5: write", x.write(1, 0, 100), 1);
        due("5: shift all of it", x.shift(1, 0, 4, 100), 3);
        due("5: read", x.read(1, 0), 0);
        due("5: read", x.read(1, 4), 100);
        due("5: shift within a page", x.shift(1, 4, 5, 1), 5);
        due("5: read", x.read(1, 4), 99);
        due("5: read", x.read(1, 5), 1);
        due("5: begin()", x.begin(), 2);
        due("5: both keys are held", x.read(2, 0), LOCKED);
        due("5: both keys are held", x.read(2, 5), LOCKED);
        Check.toQuorum(x, 1, 2);
        due("5: complete", x.point(1), 2);
        due("5: the first change does not close", x.point(2), 1);
        Check.toQuorum(x, 3, 3);
        due("5: the second change closes", x.point(2), 3);
        due("5: write", x.write(1, 8, 9999), 6);
        due("5: write", x.write(1, 9, 0), 7);
        due("5: the greatest n", x.shift(1, 8, 9, 9999), 9);
        due("5: commit(1)", x.commit(1), 10);
        due("5: shift", x.shift(2, 9, 0, 9000), 12);
        due("5: begin()", x.begin(), 3);
        due("5: the shift alone holds a", x.read(3, 9), LOCKED);
        due("5: the shift alone holds b", x.read(3, 0), LOCKED);
        due("5: read", x.read(3, 8), 0);
        due("5: read", x.read(2, 9), 999);
        due("5: read", x.read(2, 0), 9000);
    }

    private static void promise5ShiftRefused() {
        RedoQuorum x = filled(147);
        due("5: begin()", x.begin(), 2);
        due("5: shift(1, -1, 1, 1)", x.shift(1, -1, 1, 1), BAD);
        due("5: shift(1, 0, 32, 1)", x.shift(1, 0, 32, 1), BAD);
        due("5: shift(1, 0, -1, 1)", x.shift(1, 0, -1, 1), BAD);
        due("5: shift(1, 32, 0, 1)", x.shift(1, 32, 0, 1), BAD);
        due("5: shift(1, 0, 0, 1)", x.shift(1, 0, 0, 1), BAD);
        due("5: shift(1, 0, 1, 0)", x.shift(1, 0, 1, 0), BAD);
        due("5: shift(1, 0, 1, -1)", x.shift(1, 0, 1, -1), BAD);
        due("5: shift(1, 0, 1, 10000)", x.shift(1, 0, 1, 10000), BAD);
        due("5: BAD ahead of IDLE", x.shift(3, 0, 0, 1), BAD);
        due("5: IDLE", x.shift(3, 0, 1, 1), IDLE);
        due("5: LOCKED for a", x.shift(2, 0, 1, 1), LOCKED);
        due("5: LOCKED for b", x.shift(2, 1, 0, 1), LOCKED);
        due("5: SHORT, too little", x.shift(1, 0, 1, 148), SHORT);
        due("5: SHORT holds nothing", x.read(2, 1), 0);
        due("5: write", x.write(1, 2, 9990), 148);
        due("5: SHORT, too much", x.shift(1, 0, 2, 10), SHORT);
        due("5: just not too much", x.shift(1, 0, 2, 9), 150);
        due("5: FULL ahead of SHORT", x.shift(1, 0, 2, 1), FULL);
        due("5: LOCKED ahead of FULL", x.shift(2, 0, 2, 1), LOCKED);
        due("5: FULL ahead of touching", x.shift(1, 2, 4, 1), FULL);
        Check.cacheDue(x, "10000000");
        due("5: crash()", x.crash(), true);
        due("5: BAD ahead of DOWN", x.shift(1, 0, 0, 1), BAD);
        due("5: DOWN ahead of IDLE", x.shift(9, 0, 1, 1), DOWN);
        RedoQuorum y = filled(149);
        due("5: shift with 149 records", y.shift(1, 0, 1, 149), 151);
        due("5: read", y.read(1, 1), 149);
        due("5: shift with 151 records", y.shift(1, 1, 0, 1), FULL);
    }

    private static void promise5ShiftLeavesTheCacheTouched() {
        RedoQuorum x = started();
        due("5: SHORT", x.shift(1, 0, 4, 1), SHORT);
        Check.cacheDue(x, "21000000");
        due("5: SHORT", x.shift(1, 4, 0, 1), SHORT);
        Check.cacheDue(x, "12000000");
        due("5: write", x.write(1, 8, 5), 1);
        due("5: write", x.write(1, 12, 5), 2);
        due("5: write", x.write(1, 4, 5), 3);
        Check.cacheDue(x, "41320000");
        due("5: write", x.write(1, 0, 5), 4);
        due("5: a's page is touched, b's stalls", x.shift(1, 13, 16, 1), STALL);
        Check.cacheDue(x, "23410000");
        due("5: STALL for a's page touches nothing", x.shift(1, 16, 0, 1), STALL);
        Check.cacheDue(x, "23410000");
        due("5: begin()", x.begin(), 2);
        due("5: LOCKED touches nothing", x.shift(2, 9, 0, 1), LOCKED);
        Check.cacheDue(x, "23410000");
        due("5: STALL holds nothing", x.read(2, 13), 0);
    }

    private static void promise5ShiftKeepsItsOwnPages() {
        RedoQuorum x = started();
        for (int page = 0; page < 4; page++) {
            Check.touched(x, 1, page);
        }
        due("5: b's page does not make room for a's", x.shift(1, 16, 0, 1), SHORT);
        Check.cacheDue(x, "10432000");
        RedoQuorum y = started();
        for (int page = 1; page < 4; page++) {
            due("5: write", y.write(1, 4 * page, 9), page);
        }
        Check.touched(y, 1, 0);
        due("5: a's page does not make room for b's", y.shift(1, 0, 16, 1), STALL);
        due("5: b's page does not make room for a's", y.shift(1, 16, 0, 1), STALL);
        Check.cacheDue(y, "14320000");
        due("5: a page of no other key does", y.shift(1, 4, 16, 1), 5);
        Check.cacheDue(y, "02431000");
    }

    private static void promise6Commit() {
        RedoQuorum x = started();
        due("6: write", x.write(1, 0, 3), 1);
        due("6: read", x.read(1, 1), 0);
        due("6: begin()", x.begin(), 2);
        due("6: commit(1)", x.commit(1), 2);
        due("6: commit(1) again", x.commit(1), IDLE);
        due("6: read by a committed one", x.read(1, 0), IDLE);
        due("6: its keys are free", x.read(2, 0), 3);
        due("6: its keys are free", x.write(2, 1, 4), 3);
        due("6: commit(2)", x.commit(2), 4);
        Check.toQuorum(x, 1, 1);
        due("6: END of 1 to group 1", x.deliver(2, 5), 2);
        due("6: END of 1 to group 1", x.copy(1, 5, 1), 2);
        due("6: END of 2 to group 0", x.deliver(4, 5), 2);
        due("6: END of 2 to group 0", x.copy(0, 5, 2), 1);
        for (int c = 0; c < 4; c++) {
            due("6: deliver(2, c)", x.deliver(2, c), 2);
        }
        due("6: an END closes", x.point(2), 2);
        due("6: begin()", x.begin(), 3);
        due("6: an empty one", x.commit(3), 5);
        int[] none = {0, -1, 4, 60, 61, Integer.MIN_VALUE, Integer.MAX_VALUE};
        for (int t : none) {
            due("6: commit(" + t + ")", x.commit(t), IDLE);
        }
        due("6: begin()", x.begin(), 4);
        due("6: crash()", x.crash(), true);
        due("6: commit(4) while down", x.commit(4), DOWN);
        due("6: DOWN ahead of IDLE", x.commit(1), DOWN);
        due("6: commit(1) in a full log", filled(150).commit(1), 151);
    }

    private static void promise7Abort() {
        RedoQuorum x = started();
        due("7: write", x.write(1, 9, 10), 1);
        due("7: write", x.write(1, 5, 20), 2);
        due("7: write", x.write(1, 9, 30), 3);
        due("7: read", x.read(1, 20), 0);
        due("7: begin()", x.begin(), 2);
        due("7: a change for each key, and an END", x.abort(1), 6);
        due("7: abort(1) again", x.abort(1), IDLE);
        due("7: point(0)", x.point(0), 6);
        due("7: its keys are free", x.read(2, 20), 0);
        due("7: the value is back", x.read(2, 9), 0);
        due("7: the value is back", x.read(2, 5), 0);
        due("7: key 5 goes first", x.deliver(4, 5), 2);
        due("7: key 5 goes first", x.copy(1, 5, 2), 1);
        due("7: key 9 goes next", x.deliver(5, 5), 2);
        due("7: key 9 goes next", x.copy(0, 5, 2), 1);
        due("7: the END goes last", x.deliver(6, 5), 2);
        due("7: the END of 1 is of group 1", x.copy(1, 5, 2), 2);
        Check.toQuorum(x, 1, 5);
        due("7: complete", x.point(1), 5);
        due("7: changes of rolling back do not close", x.point(2), 3);
        Check.toQuorum(x, 6, 6);
        due("7: the END closes", x.point(2), 6);
        due("7: an empty one, though it holds keys", x.abort(2), 7);
        int[] none = {0, -1, 3, 61, Integer.MIN_VALUE, Integer.MAX_VALUE};
        for (int t : none) {
            due("7: abort(" + t + ")", x.abort(t), IDLE);
        }
        due("7: crash()", x.crash(), true);
        due("7: DOWN ahead of IDLE", x.abort(1), DOWN);
    }

    private static void promise7AbortGivesBackWhatWasAhead() {
        RedoQuorum x = started();
        due("7: write", x.write(1, 9, 50), 1);
        due("7: commit(1)", x.commit(1), 2);
        due("7: begin()", x.begin(), 2);
        due("7: write", x.write(2, 9, 60), 3);
        due("7: write", x.write(2, 8, 5), 4);
        due("7: write", x.write(2, 9, 70), 5);
        due("7: shift", x.shift(2, 9, 10, 7), 7);
        due("7: abort(2)", x.abort(2), 11);
        due("7: begin()", x.begin(), 3);
        due("7: the value ahead of the first change", x.read(3, 9), 50);
        due("7: the value ahead of the first change", x.read(3, 8), 0);
        due("7: the value ahead of the first change", x.read(3, 10), 0);
        due("7: write", x.write(3, 9, 80), 12);
        due("7: abort(3)", x.abort(3), 14);
        due("7: begin()", x.begin(), 4);
        due("7: the value that rolling back had given", x.read(4, 9), 50);
    }

    private static void promise7AbortTouchesNoPage() {
        RedoQuorum x = started();
        due("7: write", x.write(1, 0, 50), 1);
        due("7: write", x.write(1, 4, 50), 2);
        Check.toQuorum(x, 1, 1);
        for (int page = 2; page < 5; page++) {
            Check.touched(x, 1, page);
        }
        Check.cacheDue(x, "04321000");
        due("7: abort(1)", x.abort(1), 5);
        Check.cacheDue(x, "04321000");
        due("7: begin()", x.begin(), 2);
        due("7: the latest record of page 0 is not durable", x.read(2, 0), STALL);
    }

    /** The most records that a log can ever have: 151, a change for each of 32 keys, and 4 ENDs. */
    private static void promise7AbortInTheFullestLog() {
        RedoQuorum x = new RedoQuorum();
        for (int t = 1; t <= 4; t++) {
            due("7: begin()", x.begin(), t);
        }
        for (int key = 0; key < 32; key++) {
            due("7: write", x.write(1 + key / 8, key, 1000 + key), key + 1);
            Check.toQuorum(x, key + 1, key + 1);
        }
        for (int l = 33; l <= 149; l++) {
            due("7: write", x.write(4, 31, l), l);
        }
        due("7: shift", x.shift(4, 31, 30, 1), 151);
        due("7: abort(4)", x.abort(4), 160);
        due("7: abort(1)", x.abort(1), 169);
        due("7: abort(3)", x.abort(3), 178);
        due("7: abort(2)", x.abort(2), 187);
        due("7: point(0)", x.point(0), 187);
        due("7: deliver(187, 0)", x.deliver(187, 0), 2);
        due("7: deliver(188, 0)", x.deliver(188, 0), BAD);
        due("7: begin()", x.begin(), FULL);
        due("7: crash()", x.crash(), true);
        due("7: recover()", x.recover(), 32);
        due("7: point(0)", x.point(0), 68);
        for (int t = 1; t <= 4; t++) {
            due("7: status", x.status(t), 4);
        }
    }

    private static void promise8Status() {
        RedoQuorum x = new RedoQuorum();
        int[] none = {0, -1, 1, 60, 61, Integer.MIN_VALUE, Integer.MAX_VALUE};
        for (int t : none) {
            due("8: status(" + t + ")", x.status(t), 0);
        }
        for (int t = 1; t <= 3; t++) {
            due("8: begin()", x.begin(), t);
            due("8: status of an ACTIVE one", x.status(t), 1);
        }
        due("8: write", x.write(1, 0, 1), 1);
        due("8: commit(1)", x.commit(1), 2);
        due("8: committed, not durable", x.status(1), 2);
        due("8: abort(2)", x.abort(2), 3);
        due("8: aborted", x.status(2), 4);
        Check.toQuorum(x, 1, 2);
        due("8: committed and durable", x.status(1), 3);
        Check.toQuorum(x, 3, 3);
        due("8: aborted and durable", x.status(2), 4);
        due("8: ACTIVE", x.status(3), 1);
        due("8: crash()", x.crash(), true);
        due("8: it was ACTIVE", x.status(3), 1);
        due("8: committed and durable", x.status(1), 3);
        due("8: there is no transaction 4", x.status(4), 0);
        due("8: recover()", x.recover(), 3);
        due("8: nothing of it is in the log", x.status(3), 5);
        due("8: there is no transaction 4", x.status(4), 0);
        due("8: begin()", x.begin(), 4);
        due("8: ACTIVE", x.status(4), 1);
    }

    private static void promise8StatusAfterACut() {
        RedoQuorum x = started();
        due("8: begin()", x.begin(), 2);
        due("8: begin()", x.begin(), 3);
        due("8: write", x.write(1, 0, 1), 1);
        due("8: commit(1)", x.commit(1), 2);
        due("8: write", x.write(2, 4, 1), 3);
        due("8: commit(2)", x.commit(2), 4);
        due("8: abort(3)", x.abort(3), 5);
        due("8: deliver(1, 0)", x.deliver(1, 0), 2);
        due("8: crash()", x.crash(), true);
        due("8: committed while the writer is down", x.status(1), 2);
        due("8: committed while the writer is down", x.status(2), 2);
        due("8: aborted while the writer is down", x.status(3), 4);
        due("8: recover()", x.recover(), 1);
        due("8: its END was cut, its change rolled back", x.status(1), 4);
        due("8: all of it was cut", x.status(2), 5);
        due("8: all of it was cut", x.status(3), 5);
        due("8: point(0)", x.point(0), 3);
        due("8: IDLE", x.commit(2), IDLE);
    }

    private static void promise13Crash() {
        RedoQuorum x = started();
        due("13: write", x.write(1, 0, 1), 1);
        due("13: read", x.read(1, 4), 0);
        Check.toQuorum(x, 1, 1);
        due("13: crash()", x.crash(), true);
        Check.cacheDue(x, "00000000");
        due("13: crash() again", x.crash(), false);
        due("13: the log stays", x.point(0), 1);
        due("13: the durable point stays", x.point(2), 1);
        due("13: point(1)", x.point(1), DOWN);
        due("13: report(0, 0)", x.report(0, 0), DOWN);
        due("13: copies stay", x.copy(0, 0, 1), 1);
        due("13: fault(0, 0, 0)", x.fault(0, 0, 0), true);
        due("13: recover()", x.recover(), 1);
        due("13: reported points were 0", x.point(1), 0);
        due("13: crash()", x.crash(), true);
        due("13: crash() again", x.crash(), false);
    }

    private static void promise14RecoverRefused() {
        for (int g = 0; g < 2; g++) {
            RedoQuorum x = started();
            due("14: recover() of a writer that is up", x.recover(), BAD);
            for (int c = 0; c < 4; c++) {
                due("14: fault", x.fault(g, c, c % 2 * 2), true);
            }
            due("14: BAD ahead of AWAY", x.recover(), BAD);
            due("14: crash()", x.crash(), true);
            due("14: 2 LIVE copies", x.recover(), AWAY);
            due("14: the writer stays down", x.begin(), DOWN);
            due("14: it was ACTIVE", x.status(1), 1);
            due("14: fault", x.fault(g, 2, 1), true);
            due("14: 3 LIVE copies", x.recover(), 0);
            due("14: begin()", x.begin(), 2);
        }
    }

    private static void promise14RecoverCutsTheLog() {
        RedoQuorum x = started();
        due("14: write", x.write(1, 0, 1), 1);
        due("14: write", x.write(1, 1, 2), 2);
        due("14: shift", x.shift(1, 1, 4, 1), 4);
        due("14: deliver", x.deliver(1, 0), 2);
        due("14: deliver", x.deliver(1, 5), 2);
        due("14: deliver", x.deliver(2, 1), 2);
        due("14: deliver", x.deliver(2, 5), 2);
        due("14: deliver", x.deliver(3, 5), 2);
        due("14: deliver", x.deliver(3, 1), 2);
        due("14: fault", x.fault(0, 5, 0), true);
        due("14: crash()", x.crash(), true);
        due("14: the first change of a shift does not close", x.recover(), 2);
        due("14: cut, and rolled back", x.point(0), 5);
        due("14: status(1)", x.status(1), 4);
        due("14: taken out of a LIVE copy", x.copy(0, 1, 2), 1);
        due("14: fault", x.fault(0, 5, 1), true);
        due("14: taken out of a STOPPED copy", x.copy(0, 5, 2), 2);
        due("14: record 3 is another one now", x.deliver(3, 5), 2);
        due("14: its point", x.copy(0, 5, 1), 3);
        due("14: the END is of group 1", x.deliver(5, 0), 2);
        due("14: the END is of group 1", x.copy(1, 0, 1), 5);
    }

    private static void promise14RecoverStopsAtAGap() {
        RedoQuorum x = started();
        for (int l = 1; l <= 4; l++) {
            due("14: write", x.write(1, 0, l), l);
        }
        due("14: deliver", x.deliver(1, 3), 2);
        due("14: deliver", x.deliver(2, 4), 2);
        due("14: deliver", x.deliver(4, 3), 2);
        due("14: crash()", x.crash(), true);
        due("14: records of several copies, up to the gap", x.recover(), 2);
        due("14: point(0)", x.point(0), 4);
        due("14: the last record was taken out too", x.copy(0, 3, 2), 1);
        RedoQuorum y = started();
        due("14: write", y.write(1, 0, 1), 1);
        due("14: write", y.write(1, 4, 1), 2);
        due("14: write", y.write(1, 0, 1), 3);
        due("14: deliver", y.deliver(1, 0), 2);
        due("14: deliver", y.deliver(3, 0), 2);
        due("14: crash()", y.crash(), true);
        due("14: a gap of the other group", y.recover(), 1);
    }

    private static void promise14RecoverRollsBackInOrder() {
        RedoQuorum x = started();
        due("14: write", x.write(1, 8, 40), 1);
        due("14: commit(1)", x.commit(1), 2);
        for (int t = 2; t <= 4; t++) {
            due("14: begin()", x.begin(), t);
        }
        due("14: write", x.write(4, 8, 50), 3);
        due("14: write", x.write(3, 4, 60), 4);
        due("14: commit(2)", x.commit(2), 5);
        Check.toQuorum(x, 1, 5);
        due("14: crash()", x.crash(), true);
        due("14: recover()", x.recover(), 5);
        due("14: two rolled back", x.point(0), 9);
        due("14: status(2)", x.status(2), 3);
        due("14: status(3)", x.status(3), 4);
        due("14: status(4)", x.status(4), 4);
        int[] groups = {1, 1, 0, 0};
        for (int i = 0; i < 4; i++) {
            int before = x.copy(groups[i], 5, 2);
            due("14: deliver", x.deliver(6 + i, 5), 2);
            due("14: 3 goes ahead of 4", x.copy(groups[i], 5, 2), before + 1);
        }
        Check.toQuorum(x, 6, 8);
        due("14: the change that rolls 4 back does not close", x.point(2), 7);
        Check.toQuorum(x, 9, 9);
        due("14: begin()", x.begin(), 5);
        due("14: the value is back", x.read(5, 8), 40);
        due("14: the value is back", x.read(5, 4), 0);
    }

    private static void promise14RecoverReports() {
        RedoQuorum x = started();
        due("14: write", x.write(1, 0, 1), 1);
        due("14: commit(1)", x.commit(1), 2);
        due("14: crash()", x.crash(), true);
        Check.toQuorum(x, 1, 2);
        due("14: nothing is reported to a writer that is down", x.point(2), 0);
        due("14: status(1)", x.status(1), 2);
        due("14: recover()", x.recover(), 2);
        due("14: the points of LIVE copies are reported", x.point(1), 2);
        due("14: so the durable point rises", x.point(2), 2);
        due("14: status(1)", x.status(1), 3);
        due("14: crash()", x.crash(), true);
        due("14: fault", x.fault(1, 2, 2), true);
        due("14: recover()", x.recover(), 2);
        due("14: three of group 1 reported 2", x.point(1), 1);
        due("14: the durable point stays", x.point(2), 2);
    }

    private static void promise14RecoverFreesKeysAndTransactions() {
        RedoQuorum x = new RedoQuorum();
        for (int t = 1; t <= 4; t++) {
            due("14: begin()", x.begin(), t);
            due("14: read", x.read(t, t), 0);
        }
        due("14: crash()", x.crash(), true);
        due("14: recover()", x.recover(), 0);
        for (int t = 1; t <= 4; t++) {
            due("14: no transaction is ACTIVE", x.read(t, t), IDLE);
            due("14: status", x.status(t), 5);
        }
        due("14: nothing was rolled back", x.point(0), 0);
        for (int t = 5; t <= 8; t++) {
            due("14: begin()", x.begin(), t);
            due("14: no keys are held", x.read(t, 9 - t), 0);
        }
        due("14: begin() with 4 ACTIVE", x.begin(), FULL);
    }

    private static void promise14RecoverTwice() {
        RedoQuorum x = started();
        due("14: begin()", x.begin(), 2);
        due("14: write", x.write(1, 0, 1), 1);
        due("14: write", x.write(2, 8, 2), 2);
        Check.toQuorum(x, 1, 2);
        due("14: crash()", x.crash(), true);
        due("14: recover()", x.recover(), 2);
        due("14: point(0)", x.point(0), 6);
        Check.toQuorum(x, 3, 4);
        due("14: deliver", x.deliver(5, 0), 2);
        due("14: crash()", x.crash(), true);
        due("14: half of the rolling back is cut", x.recover(), 4);
        due("14: and done again", x.point(0), 6);
        due("14: record 5 was taken out", x.deliver(5, 0), 2);
        due("14: status(1)", x.status(1), 4);
        due("14: status(2)", x.status(2), 4);
    }

    private static void promise15Point() {
        RedoQuorum x = started();
        due("15: write", x.write(1, 0, 10), 1);
        due("15: shift", x.shift(1, 0, 1, 5), 3);
        due("15: point(0)", x.point(0), 3);
        for (int c = 5; c >= 3; c--) {
            due("15: deliver", x.deliver(2, c), 2);
            due("15: deliver", x.deliver(1, c), 2);
            due("15: three of six are too few", x.point(1), 0);
        }
        due("15: deliver", x.deliver(1, 0), 2);
        due("15: the fourth greatest", x.point(1), 1);
        due("15: the durable point", x.point(2), 1);
        due("15: deliver", x.deliver(2, 0), 2);
        due("15: the complete point", x.point(1), 2);
        due("15: it does not close", x.point(2), 1);
        due("15: fault", x.fault(0, 4, 2), true);
        due("15: the complete point sinks", x.point(1), 0);
        due("15: the durable point does not", x.point(2), 1);
        int[] others = {-1, 3, Integer.MIN_VALUE, Integer.MAX_VALUE};
        for (int what : others) {
            due("15: point(" + what + ")", x.point(what), BAD);
        }
        due("15: crash()", x.crash(), true);
        due("15: point(0)", x.point(0), 3);
        due("15: point(1)", x.point(1), DOWN);
        due("15: point(2)", x.point(2), 1);
        due("15: point(3)", x.point(3), BAD);
    }

    private static void promise20Cached() {
        RedoQuorum x = started();
        for (int page = 0; page < 4; page++) {
            Check.touched(x, 1, 7 - page);
        }
        Check.cacheDue(x, "00001234");
        Check.touched(x, 1, 6);
        Check.cacheDue(x, "00002314");
        due("20: write", x.write(1, 28, 1), 1);
        due("20: write", x.write(1, 21, 1), 2);
        Check.cacheDue(x, "00004132");
        Check.touched(x, 1, 0);
        Check.cacheDue(x, "10000243");
        Check.touched(x, 1, 1);
        Check.cacheDue(x, "21000304");
        int[] none = {-1, 8, 32, Integer.MIN_VALUE, Integer.MAX_VALUE};
        for (int p : none) {
            due("20: cached(" + p + ")", x.cached(p), 0);
        }
        due("20: crash()", x.crash(), true);
        Check.cacheDue(x, "00000000");
    }

    private static void touchingIsAway() {
        RedoQuorum x = started();
        stopAll(x, 0);
        due("touching: no LIVE copy", x.read(1, 0), AWAY);
        due("touching: no LIVE copy", x.write(1, 0, 1), AWAY);
        due("touching: the other group", x.read(1, 4), 0);
        due("touching: AWAY for a's page", x.shift(1, 0, 4, 1), AWAY);
        due("touching: AWAY for b's page", x.shift(1, 12, 0, 1), AWAY);
        Check.cacheDue(x, "02010000");
        due("touching: begin()", x.begin(), 2);
        due("touching: fault", x.fault(0, 2, 1), true);
        due("touching: AWAY held nothing", x.read(2, 0), 0);
        due("touching: AWAY held nothing", x.read(2, 12), 0);
        RedoQuorum y = new RedoQuorum();
        Check.committed(y, 0, 5);
        due("touching: begin()", y.begin(), 2);
        for (int c = 0; c < 4; c++) {
            due("touching: fault", y.fault(0, c, 0), true);
        }
        due("touching: a page of the cache is served", y.read(2, 0), 5);
        due("touching: LIVE copies that lack a record", y.read(2, 8), AWAY);
        due("touching: fault", y.fault(0, 3, 1), true);
        due("touching: one that lacks none", y.read(2, 8), 0);
        due("touching: fault", y.fault(0, 3, 0), true);
        due("touching: none again", y.read(2, 16), AWAY);
        due("touching: fault", y.fault(0, 0, 1), true);
        due("touching: copy 0 lacks none", y.read(2, 16), 0);
    }

    private static void touchingStallsAheadOfAway() {
        RedoQuorum x = started();
        for (int page = 0; page < 4; page++) {
            Check.touched(x, 1, page);
        }
        stopAll(x, 0);
        due("touching: AWAY leaves the cache", x.read(1, 16), AWAY);
        Check.cacheDue(x, "43210000");
        for (int page = 0; page < 4; page++) {
            due("touching: write", x.write(1, 4 * page, 1), page + 1);
        }
        due("touching: STALL ahead of AWAY", x.read(1, 16), STALL);
        RedoQuorum y = started();
        due("touching: write", y.write(1, 0, 1), 1);
        Check.toQuorum(y, 1, 1);
        for (int page = 1; page < 5; page++) {
            Check.touched(y, 1, page);
        }
        Check.cacheDue(y, "04321000");
        due("touching: abort(1)", y.abort(1), 3);
        due("touching: begin()", y.begin(), 2);
        stopAll(y, 0);
        due("touching: STALL ahead of AWAY", y.read(2, 0), STALL);
        due("touching: AWAY", y.read(2, 20 + 4), AWAY);
    }
}
