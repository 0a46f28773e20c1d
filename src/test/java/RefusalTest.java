import java.util.EnumSet;
import java.util.List;
import java.util.Set;

/**
 * Refusals: each alone, each two that can hold at once (of touching calls every set of them), that
 * the one named first is answered, and that the refused call changed nothing.
 */
public final class RefusalTest {
    /** What can stand in the way of a shift from key 0 of page 0 to key 4 of page 1; a read or a write has one side of it. */
    private enum Why { BAD, DOWN, IDLE, LOCKED_A, LOCKED_B, FULL, STALL_A, NO_ROOM, AWAY_A, STALL_B, ONE_ROOM, AWAY_B, SHORT_A, SHORT_B }

    private static final Set<Why> SIDE_A =
        EnumSet.of(Why.BAD, Why.DOWN, Why.IDLE, Why.LOCKED_A, Why.FULL, Why.STALL_A, Why.NO_ROOM, Why.AWAY_A);
    private static final Set<Why> SIDE_B =
        EnumSet.of(Why.BAD, Why.DOWN, Why.IDLE, Why.LOCKED_B, Why.FULL, Why.STALL_B, Why.NO_ROOM, Why.AWAY_B);

    /**
     * Copy 2 of group 0 is STOPPED and would report 3, copy 5 is LOST, copy 3 of group 1 is STOPPED and lacks
     * record 4, copies 0 have a fold, and two transactions hold keys.
     */
    private static final String BUSY = "begin = 1; write 1 0 5 = 1; commit 1 = 2; quorum 1..2; follow 0,1 = 2; collect 0,1 0 = 1; "
        + "begin = 2; write 2 0 6 = 3; write 2 4 7 = 4; deliver 3 0,1,3 = 2; gossip 0 0 2 = 1; gossip 0 0 4 = 2; deliver 4 0..2 = 2; "
        + "gossip 1 0 4 = 2; fault 0 2 0 = true; fault 0 5 2 = true; fault 1 1,3 0 = true; begin = 3; read 3 8 = 0; read 2 12 = 0; ";
    /** Something is durable that the replicas have not followed, and something is held that is not durable. */
    private static final String BEHIND = "begin = 1; write 1 0 5 = 1; commit 1 = 2; quorum 1..2; follow 0 = 2; begin = 2; write 2 0 6 = 3; "
        + "write 2 8 7 = 4; commit 2 = 5; quorum 3..5; begin = 3; write 3 0 7 = 6; deliver 6 0..1 = 2; ";

    public static void main(String[] args) throws ReflectiveOperationException {
        Check.each(RefusalTest.class, "refusals");
        Check.end();
    }

    /** All of the scene's transactions are there: 1 and 2 ended, 3 may hold the keys, 4 makes the call. */
    private static String scene(Set<Why> whys) {
        StringBuilder s = new StringBuilder("begin = 1; write 1 0 5000 = 1; write 1 4 ");
        s.append(valueOfB(whys)).append(" = 2; commit 1 = 3; begin = 2; ");
        int l = 3;
        if (whys.contains(Why.STALL_A)) {
            s.append("write 2 1 7 = ").append(++l).append("; ");
        }
        if (whys.contains(Why.STALL_B)) {
            s.append("write 2 5 7 = ").append(++l).append("; ");
        }
        s.append("begin = 3; ");
        s.append(whys.contains(Why.LOCKED_A) ? "read 3 0 = 5000; " : "");
        s.append(whys.contains(Why.LOCKED_B) ? "read 3 4 = " + valueOfB(whys) + "; " : "");
        // Transaction 4 holds a key of both pages, so that to read it again will touch the page and do no more.
        s.append("begin = 4; read 4 2,6 = 0; quorum 1..").append(l).append("; read 4 8,12,16,20 = 0; ");
        // Rolled back, the pages 0 and 1 have a record that is not durable, though they are out of the cache.
        l += l > 3 ? l - 3 + 1 : 1;
        s.append(l > 4 ? "abort 2 = " : "commit 2 = ").append(l).append("; ");
        int[] stuck = stuckKeys(whys);
        if (whys.contains(Why.FULL)) {
            l = 150 - stuck.length;
            s.append("fill 4 8 ").append(l).append("; read 4 12,16,20 = 0; ");
        }
        for (int key : stuck) {
            s.append("write 4 ").append(key).append(" 1 = ").append(++l).append("; ");
        }
        s.append(whys.contains(Why.AWAY_A) ? "fault 0 0..5 0 = true; " : "");
        s.append(whys.contains(Why.AWAY_B) ? "fault 1 0..5 0 = true; " : "");
        return s.append(whys.contains(Why.DOWN) ? "crash = true; " : "").toString();
    }

    /** Keys of the cached pages that will have a record which is not durable, so that they may not go. */
    private static int[] stuckKeys(Set<Why> whys) {
        if (whys.contains(Why.NO_ROOM)) {
            return new int[] {8, 12, 16, 20};
        }
        return whys.contains(Why.ONE_ROOM) ? new int[] {12, 16, 20} : new int[0];
    }

    private static int valueOfB(Set<Why> whys) {
        return whys.contains(Why.SHORT_A) && !whys.contains(Why.SHORT_B) ? 0 : 5000;
    }

    private static String numberOf(Set<Why> whys) {
        return whys.contains(Why.SHORT_A) ? "5001" : whys.contains(Why.SHORT_B) ? "5000" : "4999";
    }

    /** The refusal that is due, or "" when there is none; of a read, of a write and of a shift alike. */
    private static String due(Set<Why> whys) {
        if (whys.contains(Why.BAD) || whys.contains(Why.DOWN) || whys.contains(Why.IDLE)) {
            return whys.contains(Why.BAD) ? "BAD" : whys.contains(Why.DOWN) ? "DOWN" : "IDLE";
        }
        if (whys.contains(Why.LOCKED_A) || whys.contains(Why.LOCKED_B)) {
            return "LOCKED";
        }
        if (whys.contains(Why.FULL)) {
            return "FULL";
        }
        if (whys.contains(Why.STALL_A) || whys.contains(Why.NO_ROOM)) {
            return "STALL";
        }
        if (whys.contains(Why.AWAY_A)) {
            return "AWAY";
        }
        if (whys.contains(Why.STALL_B) || whys.contains(Why.ONE_ROOM)) {
            return "STALL";
        }
        if (whys.contains(Why.AWAY_B)) {
            return "AWAY";
        }
        return whys.contains(Why.SHORT_A) || whys.contains(Why.SHORT_B) ? "SHORT" : "";
    }

    /** What the call touches before it is refused: reads of keys that transaction 4 holds already. */
    private static String touchedByShift(Set<Why> whys) {
        boolean early = whys.stream().anyMatch(why -> why.ordinal() <= Why.AWAY_A.ordinal());
        if (early) {
            return "";
        }
        boolean late = whys.contains(Why.STALL_B) || whys.contains(Why.ONE_ROOM) || whys.contains(Why.AWAY_B);
        return late ? "read 4 2 = 0; " : "read 4 2 = 0; read 4 6 = 0; ";
    }

    private static String cacheAfterShift(Set<Why> whys) {
        if (whys.contains(Why.DOWN)) {
            return "00000000";
        }
        String touched = touchedByShift(whys);
        return touched.isEmpty() ? "00432100" : touched.contains(" 6 ") ? "21004300" : "10043200";
    }

    /** Page 2 goes for the page of the key, when the call comes so far. */
    private static String cacheAfterOne(Set<Why> whys, int page) {
        if (whys.contains(Why.DOWN)) {
            return "00000000";
        }
        return !due(whys).isEmpty() ? "00432100" : page == 0 ? "10043200" : "01043200";
    }

    private static Set<Why> none() {
        return EnumSet.noneOf(Why.class);
    }

    private static Set<Why> numbered(int number, Why[] all) {
        Set<Why> whys = none();
        for (int i = 0; i < all.length; i++) {
            if ((number >> i & 1) == 1) {
                whys.add(all[i]);
            }
        }
        return whys;
    }

    private static int recordsOf(Set<Why> whys) {
        return (int) Run.of(scene(whys)).answer("point 0");
    }

    private static String shiftOf(Set<Why> whys) {
        return "shift " + (whys.contains(Why.IDLE) ? 2 : 4) + " 0 " + (whys.contains(Why.BAD) ? 0 : 4) + " " + numberOf(whys);
    }

    // Touching calls: every set of refusals.

    private static void refusalsOfShiftInEverySet() {
        Why[] all = Why.values();
        for (int i = 0; i < 1 << all.length; i++) {
            Set<Why> whys = numbered(i, all);
            String due = due(whys);
            if (!due.isEmpty()) {
                Run.of(scene(whys)).go(shiftOf(whys) + " = " + due + "; cache " + cacheAfterShift(whys));
            }
        }
    }

    private static void refusalsOfShiftAreNoneWhenNothingIsInTheWay() {
        Run.of(scene(none())).go("shift 4 0 4 4999 = 6; cache 21004300; read 4 0 = 1; read 4 4 = 9999");
    }

    private static void refusalsOfReadInEverySet() {
        readsInEverySet(SIDE_A, 0);
        readsInEverySet(SIDE_B, 4);
    }

    private static void readsInEverySet(Set<Why> side, int key) {
        Why[] all = side.toArray(new Why[0]);
        for (int i = 0; i < 1 << all.length; i++) {
            Set<Why> whys = numbered(i, all);
            Set<Why> telling = EnumSet.copyOf(whys);
            telling.remove(Why.FULL);
            // There is no key that is BAD and yet locked or on a page, but the scene stays as it is.
            String call = "read " + (whys.contains(Why.IDLE) ? 2 : 4) + " " + (whys.contains(Why.BAD) ? key + 32 : key);
            String due = due(telling).isEmpty() ? "5000" : due(telling);
            String cache = whys.contains(Why.FULL) && due.equals("5000") ? fullCacheAfterOne(key / 4) : cacheAfterOne(telling, key / 4);
            Run.of(scene(whys)).go(call + " = " + due + "; cache " + cache);
        }
    }

    /** The writes that fill the log are of page 2, which may not go then: page 3 goes. */
    private static String fullCacheAfterOne(int page) {
        return page == 0 ? "10403200" : "01403200";
    }

    private static void refusalsOfWriteInEverySet() {
        writesInEverySet(SIDE_A, 0);
        writesInEverySet(SIDE_B, 4);
    }

    private static void writesInEverySet(Set<Why> side, int key) {
        Why[] all = side.toArray(new Why[0]);
        for (int i = 0; i < 1 << all.length; i++) {
            Set<Why> whys = numbered(i, all);
            String due = due(whys).isEmpty() ? "" + (recordsOf(whys) + 1) : due(whys);
            String t = whys.contains(Why.IDLE) ? "2" : "4";
            String cache = cacheAfterOne(whys, key / 4);
            for (String value : whys.contains(Why.BAD) ? List.of("-1", "10000", "MIN", "MAX") : List.of("0")) {
                Run.of(scene(whys)).go("write " + t + " " + key + " " + value + " = " + due + "; cache " + cache);
            }
        }
    }

    /** Each way to be BAD, and each of the others beside it. */
    private static void refusalsByWrongArgumentsAreNamedFirst() {
        for (Why other : Why.values()) {
            Set<Why> whys = EnumSet.of(other);
            String cache = "; cache " + (other == Why.DOWN ? "00000000" : "00432100");
            String t = other == Why.IDLE ? "2 " : "4 ";
            for (String args : List.of("-1 4 1", "32 4 1", "MIN 4 1", "MAX 4 1", "0 -1 1", "0 32 1", "0 MIN 1", "0 MAX 1", "0 0 1", "4 4 1",
                "0 4 0", "0 4 -1", "0 4 10000", "0 4 MIN", "0 4 MAX")) {
                Run.of(scene(whys)).go("shift " + t + args + " = BAD" + cache);
            }
            for (String args : List.of("-1 1", "32 1", "MIN 1", "MAX 1", "0 -1", "0 10000", "0 MIN", "0 MAX", "32 10000")) {
                Run.of(scene(whys)).go("write " + t + args + " = BAD" + cache);
            }
            for (String key : List.of("-1", "32", "MIN", "MAX")) {
                Run.of(scene(whys)).go("read " + t + key + " = BAD" + cache);
            }
        }
    }

    // Touching calls: each alone and each two, and nothing is changed.

    private static void refusalsOfShiftChangeNothingButTheCache() {
        for (Why one : Why.values()) {
            for (Why other : Why.values()) {
                Set<Why> whys = EnumSet.of(one, other);
                Twins.same(scene(whys), shiftOf(whys), due(whys), touchedByShift(whys));
            }
        }
    }

    private static void refusalsOfReadChangeNothing() {
        for (Why one : SIDE_A) {
            for (Why other : SIDE_A) {
                Set<Why> whys = EnumSet.of(one, other);
                Set<Why> telling = EnumSet.copyOf(whys);
                telling.remove(Why.FULL);
                if (!telling.isEmpty()) {
                    String call = "read " + (whys.contains(Why.IDLE) ? 2 : 4) + " " + (whys.contains(Why.BAD) ? 32 : 0);
                    Twins.same(scene(whys), call, due(telling));
                }
            }
        }
    }

    private static void refusalsOfWriteChangeNothing() {
        for (Why one : SIDE_A) {
            for (Why other : SIDE_A) {
                Set<Why> whys = EnumSet.of(one, other);
                String call = "write " + (whys.contains(Why.IDLE) ? 2 : 4) + " 0 " + (whys.contains(Why.BAD) ? 10000 : 9);
                Twins.same(scene(whys), call, due(whys));
            }
        }
    }

    private static void refusalsByWrongArgumentsChangeNothing() {
        for (String call : List.of("read 4 -1", "read 4 32", "write 4 -1 0", "write 4 32 0", "write 4 0 -1", "write 4 0 10000",
            "shift 4 -1 4 1", "shift 4 32 4 1", "shift 4 0 -1 1", "shift 4 0 32 1", "shift 4 0 0 1", "shift 4 0 4 0", "shift 4 0 4 10000",
            "shift 4 0 4 MIN", "shift 4 0 4 MAX", "write 4 0 MIN", "write 4 0 MAX", "read 4 MIN", "read 4 MAX")) {
            Twins.same(scene(none()), call, "BAD");
        }
    }

    private static void refusalsOfNoTransactionChangeNothing() {
        for (String t : List.of("0", "-1", "1", "2", "5", "60", "61", "MIN", "MAX")) {
            Twins.same(scene(none()), "read " + t + " 0", "IDLE");
            Twins.same(scene(none()), "write " + t + " 0 1", "IDLE");
            Twins.same(scene(none()), "shift " + t + " 0 4 1", "IDLE");
            Twins.same(scene(none()), "commit " + t, "IDLE");
            Twins.same(scene(none()), "abort " + t, "IDLE");
        }
    }

    // begin, commit and abort.

    private static String sixty() {
        StringBuilder s = new StringBuilder();
        for (int t = 1; t <= 60; t++) {
            s.append("begin = ").append(t).append("; commit ").append(t).append(" = ").append(t).append("; ");
        }
        return s.toString();
    }

    private static void refusalsOfBegin() {
        String four = "begin = 1; begin = 2; begin = 3; begin = 4; write 2 0 5 = 1; ";
        String full = "begin = 1; fill 1 0 150; ";
        for (String scene : List.of(four, full, sixty())) {
            Twins.same(scene, "begin", "FULL");
            Twins.same(scene + "crash = true; ", "begin", "DOWN");
        }
        Twins.same("begin = 1; begin = 2; begin = 3; begin = 4; fill 1 0 150; ", "begin", "FULL");
        Twins.same("begin = 1; write 1 0 5 = 1; crash = true; ", "begin", "DOWN");
    }

    private static void refusalsOfCommitAndAbort() {
        for (String call : List.of("commit ", "abort ")) {
            for (String t : List.of("1", "4", "0", "61", "MIN", "MAX")) {
                Twins.same(BUSY, call + t, "IDLE");
                Twins.same(BUSY + "crash = true; ", call + t, "DOWN");
            }
            Twins.same(BUSY + "crash = true; ", call + "2", "DOWN");
            Twins.same(BUSY + "crash = true; fault 0 2 1 = true; recover = 4; ", call + "2", "IDLE");
        }
    }

    // Calls of the copies.

    private static void refusalsOfDeliver() {
        for (String state : List.of("", "crash = true; ")) {
            for (String call : List.of("deliver 0 0", "deliver 5 0", "deliver -1 0", "deliver MIN 0", "deliver MAX 0", "deliver 1 -1",
                "deliver 1 6", "deliver 1 MIN", "deliver 1 MAX", "deliver 0 6", "deliver 5 2", "deliver 5 5")) {
                Twins.same(BUSY + state, call, "BAD");
            }
            Twins.same(BUSY + state, "deliver 3 2", "0");
            Twins.same(BUSY + state, "deliver 1 5", "0");
            Twins.same(BUSY + state, "deliver 4 1", "0");
            Twins.same(BUSY + state, "deliver 4 3", "0");
        }
    }

    private static void refusalsOfGossip() {
        for (String state : List.of("", "crash = true; ")) {
            for (String call : List.of("gossip -1 0 1", "gossip 2 0 1", "gossip 0 -1 1", "gossip 0 6 1", "gossip 0 0 -1", "gossip 0 0 6",
                "gossip 0 3 3", "gossip 0 2 2", "gossip 0 5 5", "gossip 0 2 6", "gossip 0 6 2", "gossip 2 2 1", "gossip MIN 0 1",
                "gossip MAX 0 1", "gossip 0 MIN 1", "gossip 0 MAX 1", "gossip 0 0 MIN", "gossip 0 0 MAX")) {
                Twins.same(BUSY + state, call, "BAD");
            }
            for (String call : List.of("gossip 0 2 3", "gossip 0 0 2", "gossip 0 0 5", "gossip 0 5 0", "gossip 0 2 5", "gossip 0 5 2",
                "gossip 1 1 5", "gossip 1 4 1", "gossip 1 0 3", "gossip 1 3 5")) {
                Twins.same(BUSY + state, call, "AWAY");
            }
        }
    }

    private static void refusalsOfReport() {
        for (String args : List.of("-1 0", "2 0", "0 -1", "0 6", "MIN 0", "MAX 0", "0 MIN", "0 MAX")) {
            Twins.same(BUSY, "report " + args, "BAD");
            Twins.same(BUSY + "crash = true; ", "report " + args, "BAD");
        }
        for (String args : List.of("0 2", "0 5", "1 1")) {
            Twins.same(BUSY, "report " + args, "AWAY");
            Twins.same(BUSY + "crash = true; ", "report " + args, "DOWN");
        }
        Twins.same(BUSY + "crash = true; ", "report 0 0", "DOWN");
        Twins.same(BUSY + "crash = true; ", "report 0 4", "DOWN");
    }

    private static void refusalsOfFault() {
        for (String state : List.of("", "crash = true; ")) {
            for (String args : List.of("0 0 1", "0 0 3", "0 2 0", "0 2 3", "0 5 0", "0 5 1", "0 5 2", "0 0 -1", "0 0 4", "0 2 4", "0 5 4",
                "0 0 MIN", "0 0 MAX", "-1 0 0", "2 0 0", "0 -1 0", "0 6 0", "MIN 0 2", "MAX 0 2", "0 MIN 2", "0 MAX 2")) {
                Twins.same(BUSY + state, "fault " + args, "false");
            }
            Twins.same(BUSY + "fault 0 0..1 0 = true; " + state + "fault 0 3 0 = true; ", "fault 0 5 3", "false");
            Twins.same(BUSY + state + "fault 0 0 0 = true; fault 0 1 2 = true; ", "fault 0 5 3", "false");
            Twins.same("begin = 1; write 1 0 5 = 1; deliver 1 0,1 = 2; fault 0 2..4 0 = true; fault 0 5 2 = true; " + state, "fault 0 5 3", "false");
        }
    }

    private static void refusalsOfCollect() {
        for (String args : List.of("-1 0", "2 0", "0 -1", "0 6", "MIN 0", "MAX 0", "0 MIN", "0 MAX")) {
            Twins.same(BUSY, "collect " + args, "BAD");
            Twins.same(BUSY + "crash = true; ", "collect " + args, "BAD");
        }
        for (String args : List.of("0 2", "0 5", "1 1")) {
            Twins.same(BUSY, "collect " + args, "AWAY");
            Twins.same(BUSY + "crash = true; ", "collect " + args, "DOWN");
        }
        Twins.same(BUSY + "crash = true; ", "collect 0 1", "DOWN");
        Twins.same(BUSY, "collect 0 0", "0");
    }

    // The writer as a whole, and the replicas.

    private static void refusalsOfCrash() {
        Twins.same("crash = true; ", "crash", "false");
        Twins.same(BUSY + "crash = true; ", "crash", "false");
        Twins.same(BUSY + "crash = true; deliver 4 5 = 2; ", "crash", "false");
    }

    private static void refusalsOfRecover() {
        Twins.same("", "recover", "BAD");
        Twins.same(BUSY, "recover", "BAD");
        Twins.same(BEHIND, "recover", "BAD");
        Twins.same(BEHIND + "fault 0 0..3 0 = true; ", "recover", "BAD");
        for (int g = 0; g < 2; g++) {
            Twins.same(BEHIND + "crash = true; fault " + g + " 0..3 0 = true; ", "recover", "AWAY");
            Twins.same(BEHIND + "crash = true; fault " + g + " 2..5 2 = true; ", "recover", "AWAY");
        }
        Twins.same(BEHIND + "crash = true; fault 0,1 0..5 0 = true; ", "recover", "AWAY");
    }

    private static void refusalsOfFollow() {
        for (String r : List.of("-1", "2", "MIN", "MAX")) {
            Twins.same(BEHIND, "follow " + r, "BAD");
            Twins.same(BEHIND + "crash = true; ", "follow " + r, "BAD");
        }
        Twins.same(BEHIND + "crash = true; ", "follow 0", "DOWN");
        Twins.same(BEHIND + "crash = true; ", "follow 1", "DOWN");
    }

    private static void refusalsOfView() {
        for (String args : List.of("-1 0", "2 0", "0 -1", "0 32", "MIN 0", "MAX 0", "0 MIN", "0 MAX", "2 32")) {
            Twins.same(BEHIND, "view " + args, "BAD");
            Twins.same(BEHIND + "fault 0 0..5 0 = true; ", "view " + args, "BAD");
        }
        Twins.same(BEHIND + "fault 0 0..5 0 = true; ", "view 0 0", "AWAY");
        Twins.same(BEHIND + "fault 0 0..3 0 = true; ", "view 0 0", "AWAY");
    }

    private static void refusalsOfPointAndCopy() {
        for (String what : List.of("-1", "3", "MIN", "MAX")) {
            Twins.same(BUSY, "point " + what, "BAD");
            Twins.same(BUSY + "crash = true; ", "point " + what, "BAD");
            Twins.same(BUSY, "copy 0 0 " + what, "BAD");
            Twins.same(BUSY, "copy 0 2 " + what, "BAD");
        }
        Twins.same(BUSY + "crash = true; ", "point 1", "DOWN");
        for (String args : List.of("0 2 1", "0 2 2", "0 5 1", "0 5 2", "-1 0 0", "2 0 0", "0 -1 0", "0 6 0", "2 6 3", "0 2 3")) {
            Twins.same(BUSY, "copy " + args, "BAD");
            Twins.same(BUSY + "crash = true; ", "copy " + args, "BAD");
        }
    }

    /** Calls that only tell something, refused or not. */
    private static void refusalsOrNotTellingChangesNothing() {
        Twins.same(BUSY, "status 1", "3");
        Twins.same(BUSY, "status 2", "1");
        Twins.same(BUSY, "status 9", "0");
        Twins.same(BUSY, "point 0", "4");
        Twins.same(BUSY, "point 1", "2");
        Twins.same(BUSY, "point 2", "2");
        Twins.same(BUSY, "copy 0 0 1", "3");
        Twins.same(BUSY, "copy 0 0 2", "1");
        Twins.same(BUSY, "copy 0 2 0", "1");
        Twins.same(BEHIND, "view 0 0", "5");
        Twins.same(BEHIND, "view 1 0", "0");
        Twins.same(BUSY, "cached 0", "4");
        Twins.same(BUSY, "cached 8", "0");
    }
}
