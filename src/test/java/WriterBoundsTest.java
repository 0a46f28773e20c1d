/** The boundaries that promises 1 to 8, 13 to 15 and 20 name, each with a test of its own. */
public final class WriterBoundsTest {
    public static void main(String[] args) throws ReflectiveOperationException {
        Check.each(WriterBoundsTest.class, "promise");
        Check.end();
    }

    /** All transactions up to the last are begun and committed: as many records. */
    private static Run committedUpTo(int last) {
        Run run = Run.of("");
        for (int t = 1; t <= last; t++) {
            run.go("begin = " + t + "; commit " + t + " = " + t);
        }
        return run;
    }

    // Promise 1: a new object.

    private static void promise1TheLogIsEmpty() {
        Run.of("point 0..2 = 0; deliver 0,1 0..5 = BAD");
    }

    private static void promise1AllCopiesAreLiveAndEmpty() {
        Run.of("copy 0,1 0..5 0..2 = 0; gossip 0,1 0 1 = 0; report 0,1 0..5 = 0");
    }

    private static void promise1TheWriterIsUp() {
        Run.of("recover = BAD; crash = true");
        Run.of("begin = 1");
    }

    private static void promise1NoTransactionIsThere() {
        Run.of("status 0..61 = 0; commit 0..61 = IDLE; abort 0..61 = IDLE");
    }

    private static void promise1NothingIsCached() {
        Run.of("cached 0..7 = 0");
    }

    private static void promise1ObjectsShareNothing() {
        Run one = Run.of("begin = 1; write 1 0 5 = 1; commit 1 = 2; quorum 1..2; follow 0,1 = 2; collect 0 0 = 1; "
            + "begin = 2; read 2 4 = 0; fault 1 3 0 = true");
        Run.of("point 0..2 = 0; copy 0,1 0..5 0..2 = 0; cached 0..7 = 0; view 0,1 0 = 0; status 1 = 0; begin = 1; "
            + "read 1 4 = 0; crash = true");
        one.go("point 0..2 = 2; begin = 3");
    }

    // Promise 2: begin.

    private static void promise2TheFirstNumberIs1() {
        Run.of("begin = 1; begin = 2");
    }

    private static void promise2AFourthActiveOneIsTakenAFifthIsNot() {
        Run.of("begin = 1; begin = 2; begin = 3; begin = 4; begin = FULL");
    }

    private static void promise2ARefusedBeginTakesNoNumber() {
        Run.of("begin = 1; begin = 2; begin = 3; begin = 4; begin = FULL; begin = FULL; status 5 = 0; commit 3 = 1; "
            + "begin = 5; begin = FULL; status 6 = 0");
    }

    private static void promise2ACommitMakesRoom() {
        Run.of("begin = 1; begin = 2; begin = 3; begin = 4; commit 4 = 1; begin = 5; begin = FULL");
    }

    private static void promise2AnAbortMakesRoom() {
        Run.of("begin = 1; begin = 2; begin = 3; begin = 4; abort 1 = 1; begin = 5; begin = FULL");
    }

    private static void promise2ARecoveryMakesRoomForFour() {
        Run.of("begin = 1; begin = 2; begin = 3; begin = 4; crash = true; recover = 0; begin = 5; begin = 6; begin = 7; "
            + "begin = 8; begin = FULL");
    }

    private static void promise2A60thIsBegunA61stIsNot() {
        committedUpTo(59).go("begin = 60; status 60 = 1; begin = FULL; commit 60 = 60; begin = FULL; status 61 = 0");
    }

    private static void promise2The60thCountsThoughFewAreActive() {
        committedUpTo(60).go("point 0 = 60; status 1..60 = 2; begin = FULL");
    }

    private static void promise2The60thIsBegunBesideThreeOthers() {
        committedUpTo(56).go("begin = 57; begin = 58; begin = 59; begin = 60; begin = FULL; write 60 31 9 = 57; "
            + "read 57 31 = LOCKED; abort 60 = 59; begin = FULL; status 60 = 4; status 57..59 = 1");
    }

    private static void promise2NumbersAreNotGivenAgainAfterARecovery() {
        committedUpTo(60).go("crash = true; recover = 0; status 1..60 = 5; status 61 = 0; begin = FULL");
        committedUpTo(59).go("crash = true; recover = 0; begin = 60; begin = FULL");
    }

    private static void promise2With149RecordsOneIsBegunWith150NoneIs() {
        Run.of("begin = 1; fill 1 0 149; begin = 2; write 1 0 5 = 150; begin = FULL; point 0 = 150");
    }

    private static void promise2With151RecordsNoneIsBegun() {
        Run.of("begin = 1; fill 1 0 149; shift 1 0 1 1 = 151; begin = FULL");
    }

    private static void promise2With150RecordsOfEndedOnesNoneIsBegun() {
        Run.of("begin = 1; fill 1 0 149; commit 1 = 150; begin = FULL; status 2 = 0");
    }

    private static void promise2AFullLogThatWasCutTakesMore() {
        Run.of("begin = 1; fill 1 0 150; begin = FULL; deliver 1 0 = 2; crash = true; recover = 1; point 0 = 3; begin = 2");
    }

    private static void promise2AWriterThatIsDownBeginsNone() {
        Run.of("crash = true; begin = DOWN; status 1 = 0; recover = 0; begin = 1");
    }

    private static void promise2DownIsNamedAheadOfFourActive() {
        Run.of("begin = 1; begin = 2; begin = 3; begin = 4; crash = true; begin = DOWN");
    }

    private static void promise2DownIsNamedAheadOf60Begun() {
        committedUpTo(60).go("crash = true; begin = DOWN");
    }

    private static void promise2DownIsNamedAheadOf150Records() {
        Run.of("begin = 1; fill 1 0 150; crash = true; begin = DOWN");
    }

    // Promise 3: read.

    private static void promise3TheKeysAre0To31() {
        Run.of("begin = 1; read 1 0,31 = 0; read 1 -1,32,MIN,MAX = BAD; read 1 -32,33,100 = BAD");
    }

    private static void promise3ATransactionThatIsNotThereIsIdle() {
        Run.of("read 0,1,-1,60,61,MIN,MAX 0 = IDLE; begin = 1; read 1 0 = 0; read 0,2,-1,60,61,MIN,MAX 0 = IDLE");
    }

    private static void promise3The60thReadsA61stIsIdle() {
        committedUpTo(59).go("begin = 60; read 60 0 = 0; read 61,59,1 0 = IDLE");
    }

    private static void promise3OneThatEndedIsIdle() {
        Run.of("begin = 1; begin = 2; begin = 3; commit 1 = 1; abort 2 = 2; read 1,2 0 = IDLE; read 3 0 = 0; "
            + "deliver 1,2 0 = 2; crash = true; recover = 2; read 1,2,3 0 = IDLE");
    }

    private static void promise3TheLeastAndTheGreatestValueAreRead() {
        Run.of("begin = 1; write 1 0 9999 = 1; read 1 0 = 9999; write 1 0 0 = 2; read 1 0 = 0; write 1 0 1 = 3; read 1 0 = 1");
    }

    private static void promise3AFullLogIsRead() {
        Run.of("begin = 1; fill 1 0 149; shift 1 0 1 2 = 151; read 1 0 = 147; read 1 1 = 2; read 1 31 = 0");
    }

    private static void promise3AKeyThatWasReadIsHeld() {
        Run.of("begin = 1; begin = 2; read 1 0 = 0; read 2 0 = LOCKED; write 2 0 1 = LOCKED; shift 2 0 1 1 = LOCKED; "
            + "shift 2 1 0 1 = LOCKED; read 2 1 = 0");
    }

    private static void promise3AReadAddsNoRecord() {
        Run.of("begin = 1; read 1 0..31 = 0; point 0 = 0; commit 1 = 1");
    }

    private static void promise3WhatTouchingRefusesIsRefused() {
        Run.of("begin = 1; write 1 0 1 = 1; write 1 4 1 = 2; write 1 8 1 = 3; write 1 12 1 = 4; read 1 16 = STALL");
        Run.of("begin = 1; fault 0 0..5 0 = true; read 1 0 = AWAY");
    }

    // Promise 4: write.

    private static void promise4TheKeysAre0To31() {
        Run.of("begin = 1; write 1 0 1 = 1; write 1 31 1 = 2; write 1 -1,32,MIN,MAX 1 = BAD; point 0 = 2");
    }

    private static void promise4TheValuesAre0To9999() {
        Run.of("begin = 1; write 1 0 0 = 1; write 1 0 9999 = 2; write 1 0 -1,10000,MIN,MAX = BAD; read 1 0 = 9999; point 0 = 2");
    }

    private static void promise4ATransactionThatIsNotThereIsIdle() {
        Run.of("write 0,1,-1,60,61,MIN,MAX 0 1 = IDLE; begin = 1; write 0,2,-1,60,61,MIN,MAX 0 1 = IDLE; write 1 0 1 = 1");
    }

    private static void promise4The60thWritesA61stIsIdle() {
        committedUpTo(59).go("begin = 60; write 60 0 1 = 60; write 61,59,1 1 1 = IDLE");
    }

    private static void promise4OneThatEndedIsIdle() {
        Run.of("begin = 1; begin = 2; begin = 3; commit 1 = 1; abort 2 = 2; write 1,2 0 1 = IDLE; crash = true; recover = 0; "
            + "write 1,2,3 0 1 = IDLE");
    }

    private static void promise4TheFirstRecordIs1() {
        Run.of("begin = 1; write 1 0 7 = 1; point 0 = 1");
    }

    private static void promise4TheSameValueIsAChangeToo() {
        Run.of("begin = 1; write 1 0 0 = 1; write 1 0 0 = 2; point 0 = 2");
    }

    private static void promise4A150thRecordIsWrittenA151stIsNot() {
        Run.of("begin = 1; fill 1 0 149; write 1 0 8 = 150; write 1 0 9 = FULL; read 1 0 = 8; point 0 = 150");
    }

    private static void promise4With151RecordsNoneIsWritten() {
        Run.of("begin = 1; fill 1 0 149; shift 1 0 1 1 = 151; write 1 0 9 = FULL; point 0 = 151");
    }

    private static void promise4AKeyThatWasWrittenIsHeld() {
        Run.of("begin = 1; begin = 2; write 1 0 7 = 1; read 2 0 = LOCKED; write 2 0 1 = LOCKED; shift 2 0 1 1 = LOCKED; "
            + "shift 2 1 0 1 = LOCKED; write 2 1 1 = 2");
    }

    private static void promise4AWriteTouchesThePage() {
        Run.of("begin = 1; write 1 0 1 = 1; write 1 4 1 = 2; cache 21000000; write 1 3 1 = 3; cache 12000000");
    }

    private static void promise4WhatTouchingRefusesIsRefused() {
        Run.of("begin = 1; write 1 0 1 = 1; write 1 4 1 = 2; write 1 8 1 = 3; write 1 12 1 = 4; write 1 16 1 = STALL; point 0 = 4");
        Run.of("begin = 1; fault 0 0..5 0 = true; write 1 0 1 = AWAY; point 0 = 0");
    }

    // Promise 5: shift.

    private static void promise5TheKeysAre0To31() {
        Run.of("begin = 1; write 1 0 5 = 1; shift 1 0 31 5 = 3; shift 1 31 0 5 = 5; shift 1 -1,32,MIN,MAX 0 1 = BAD; "
            + "shift 1 0 -1,32,MIN,MAX 1 = BAD; point 0 = 5");
    }

    private static void promise5TheKeysDiffer() {
        Run.of("begin = 1; write 1 0 5 = 1; write 1 31 5 = 2; shift 1 0 0 1 = BAD; shift 1 31 31 1 = BAD; shift 1 -1 -1 1 = BAD; "
            + "shift 1 32 32 1 = BAD; point 0 = 2");
    }

    private static void promise5TheNumberIs1To9999() {
        Run.of("begin = 1; write 1 0 9999 = 1; shift 1 0 1 1 = 3; shift 1 1 0 1 = 5; shift 1 0 1 9999 = 7; "
            + "shift 1 1 0 0,-1,10000,MIN,MAX = BAD; read 1 0 = 0; read 1 1 = 9999; point 0 = 7");
    }

    private static void promise5ATransactionThatIsNotThereIsIdle() {
        Run.of("shift 0,1,-1,60,61,MIN,MAX 0 1 1 = IDLE; begin = 1; write 1 0 5 = 1; shift 0,2,-1,60,61,MIN,MAX 0 1 1 = IDLE; "
            + "shift 1 0 1 1 = 3");
    }

    private static void promise5The60thShiftsA61stIsIdle() {
        committedUpTo(59).go("begin = 60; write 60 0 5 = 60; shift 60 0 1 5 = 62; shift 61,59,1 1 0 1 = IDLE");
    }

    private static void promise5OneThatEndedIsIdle() {
        Run.of("begin = 1; begin = 2; begin = 3; commit 1 = 1; abort 2 = 2; shift 1,2 0 1 1 = IDLE; crash = true; recover = 0; "
            + "shift 1,2,3 0 1 1 = IDLE");
    }

    private static void promise5AllOfAIsShiftedButNotOneMore() {
        Run.of("begin = 1; write 1 0 7 = 1; shift 1 0 1 8 = SHORT; shift 1 0 1 7 = 3; read 1 0 = 0; read 1 1 = 7; "
            + "shift 1 0 1 1 = SHORT; point 0 = 3");
    }

    private static void promise5BTakesUpTo9999ButNotOneMore() {
        Run.of("begin = 1; write 1 0 7 = 1; write 1 1 9993 = 2; shift 1 0 1 7 = SHORT; shift 1 0 1 6 = 4; read 1 0 = 1; "
            + "read 1 1 = 9999; shift 1 0 1 1 = SHORT; point 0 = 4");
    }

    private static void promise5TheGreatestNumberOntoNothingButNotOnto1() {
        Run.of("begin = 1; write 1 0 9999 = 1; write 1 1 1 = 2; shift 1 0 1 9999 = SHORT; write 1 1 0 = 3; shift 1 0 1 9999 = 5");
    }

    private static void promise5KeysWithoutChangesAreShort() {
        Run.of("begin = 1; shift 1 0 1 1 = SHORT; shift 1 0 1 9999 = SHORT; point 0 = 0");
    }

    private static void promise5With148RecordsTwoAreAdded() {
        Run.of("begin = 1; fill 1 0 148; shift 1 0 1 1 = 150; shift 1 0 1 1 = FULL; point 0 = 150");
    }

    private static void promise5With149RecordsTwoAreAdded() {
        Run.of("begin = 1; fill 1 0 149; shift 1 0 1 100 = 151; read 1 0 = 49; read 1 1 = 100; shift 1 0 1 1 = FULL; point 0 = 151");
    }

    private static void promise5With150RecordsNoneIsAdded() {
        Run.of("begin = 1; fill 1 0 150; shift 1 0 1 1 = FULL; read 1 0 = 150; read 1 1 = 0; point 0 = 150");
    }

    private static void promise5BothRecordsBehindThe149thMayBeCut() {
        Run run = Run.of("begin = 1; fill 1 0 149; shift 1 0 4 1 = 151");
        for (int l = 1; l <= 150; l++) {
            run.go("deliver " + l + " 0 = 2");
        }
        run.go("copy 0 0 1 = 150; crash = true; recover = 149; point 0 = 151; status 1 = 4; begin = FULL");
    }

    private static void promise5TheFirstChangeIsOfATheSecondOfB() {
        Run.of("begin = 1; write 1 0 5 = 1; shift 1 0 4 1 = 3; deliver 2 0 = 2; copy 0 0 2 = 1; deliver 3 0 = 2; copy 1 0 2 = 1");
        Run.of("begin = 1; write 1 4 5 = 1; shift 1 4 0 1 = 3; deliver 2 0 = 2; copy 1 0 2 = 1; deliver 3 0 = 2; copy 0 0 2 = 1");
    }

    private static void promise5BothKeysAreHeld() {
        Run.of("begin = 1; write 1 0 5 = 1; commit 1 = 2; begin = 2; begin = 3; shift 2 0 1 5 = 4; read 3 0,1 = LOCKED; read 3 2 = 0");
    }

    private static void promise5EitherKeyMayBeLocked() {
        Run.of("begin = 1; begin = 2; write 1 0 5 = 1; write 1 1 5 = 2; read 2 2 = 0; shift 1 0 2 1 = LOCKED; "
            + "shift 1 2 0 1 = LOCKED; shift 2 0 1 1 = LOCKED; shift 1 0 1 1 = 4");
    }

    private static void promise5ThePageOfAIsTouchedAheadOfThatOfB() {
        Run.of("begin = 1; write 1 0 5 = 1; shift 1 0 4 1 = 3; cache 21000000; shift 1 4 0 1 = 5; cache 12000000; "
            + "shift 1 0 1 1 = 7; cache 12000000");
    }

    // Promise 6: commit.

    private static void promise6ATransactionThatIsNotThereIsIdle() {
        Run.of("commit 0,1,-1,60,61,MIN,MAX = IDLE; begin = 1; commit 0,2,-1,60,61,MIN,MAX = IDLE; commit 1 = 1; point 0 = 1");
    }

    private static void promise6OneThatEndedIsIdle() {
        Run.of("begin = 1; begin = 2; begin = 3; commit 1 = 1; commit 1 = IDLE; abort 2 = 2; commit 2 = IDLE; point 0 = 2; "
            + "crash = true; recover = 0; commit 1..3 = IDLE; point 0 = 0");
    }

    private static void promise6The60thCommitsA61stIsIdle() {
        committedUpTo(59).go("begin = 60; commit 61 = IDLE; commit 60 = 60; commit 60 = IDLE; deliver 60 0 = 2; copy 0 0 2 = 1");
    }

    private static void promise6AnEmptyOneHasAnEndToo() {
        Run.of("begin = 1; commit 1 = 1; point 0 = 1; status 1 = 2");
    }

    private static void promise6AFullLogTakesTheEndsOfFour() {
        Run.of("begin = 1; begin = 2; begin = 3; begin = 4; fill 1 0 149; shift 1 0 1 1 = 151; commit 4 = 152; commit 1 = 153; "
            + "commit 3 = 154; commit 2 = 155; point 0 = 155; status 1..4 = 2");
    }

    private static void promise6OnesThatAreDownAreNotCommitted() {
        Run.of("begin = 1; crash = true; commit 1 = DOWN; commit 2,MIN,MAX = DOWN; status 1 = 1; point 0 = 0");
    }

    // Promise 7: abort.

    private static void promise7ATransactionThatIsNotThereIsIdle() {
        Run.of("abort 0,1,-1,60,61,MIN,MAX = IDLE; begin = 1; abort 0,2,-1,60,61,MIN,MAX = IDLE; abort 1 = 1; point 0 = 1");
    }

    private static void promise7OneThatEndedIsIdle() {
        Run.of("begin = 1; begin = 2; begin = 3; commit 1 = 1; abort 1 = IDLE; abort 2 = 2; abort 2 = IDLE; point 0 = 2; "
            + "crash = true; recover = 0; abort 1..3 = IDLE; point 0 = 0");
    }

    private static void promise7The60thAbortsA61stIsIdle() {
        committedUpTo(59).go("begin = 60; write 60 0 7 = 60; abort 61 = IDLE; abort 60 = 62; abort 60 = IDLE; status 60 = 4");
    }

    private static void promise7AnEmptyOneHasAnEndToo() {
        Run.of("begin = 1; abort 1 = 1; point 0 = 1; status 1 = 4");
    }

    private static void promise7AFullLogTakesTheRollingBack() {
        Run.of("begin = 1; begin = 2; fill 1 0 149; shift 1 0 1 1 = 151; abort 1 = 154; abort 2 = 155; point 0 = 155; status 1,2 = 4; "
            + "deliver 155 0 = 2; deliver 156 0 = BAD");
    }

    private static void promise7TheLongestLogOfAllHas187Records() {
        longestLog().go("point 0 = 187; deliver 187 5 = 2; deliver 188 5 = BAD; status 1..4 = 4; begin = FULL; "
            + "crash = true; recover = 32; point 0 = 68");
    }

    private static void promise7The187thRecordIsHeldLikeAnyOther() {
        longestLog().go("deliver 187 5 = 2; deliver 187 5 = 1; copy 0 5 2 = 1; gossip 0 5 4 = 1; copy 0 4 2 = 1; fault 0 4,5 2 = true; "
            + "fault 0 5 3 = true; copy 0 5 1 = 28; deliver 187 5 = 2; fault 0 4 3 = true; deliver 187 4 = 1");
    }

    /** 32 changes, which are durable, of all keys by four transactions, then 119 of keys 31 and 30, then four are rolled back. */
    private static Run longestLog() {
        Run run = Run.of("begin = 1; begin = 2; begin = 3; begin = 4");
        for (int key = 0; key < 32; key++) {
            run.go("write " + (1 + key / 8) + " " + key + " 50 = " + (key + 1) + "; quorum " + (key + 1));
        }
        return run.go("fill 4 31 149; shift 4 31 30 1 = 151; abort 1 = 160; abort 2 = 169; abort 3 = 178; abort 4 = 187");
    }

    private static void promise7OnesThatAreDownAreNotAborted() {
        Run.of("begin = 1; write 1 0 5 = 1; crash = true; abort 1 = DOWN; abort 2,MIN,MAX = DOWN; status 1 = 1; point 0 = 1");
    }

    // Promise 8: status.

    private static void promise8NoSuchTransaction() {
        Run.of("status 0,1,-1,60,61,MIN,MAX = 0; begin = 1; status 0,2,-1,60,61,MIN,MAX = 0; status 1 = 1; crash = true; "
            + "status 0,2,-1,60,61,MIN,MAX = 0; recover = 0; status 0,2,-1,60,61,MIN,MAX = 0");
    }

    private static void promise8The60thIsThereA61stIsNot() {
        committedUpTo(59).go("status 60 = 0; begin = 60; status 60 = 1; status 61 = 0; commit 60 = 60; status 60 = 2; status 61 = 0");
    }

    private static void promise8AnEndAtTheDurablePointIsDurableTheNextOneIsNot() {
        Run.of("begin = 1; begin = 2; commit 1 = 1; commit 2 = 2; status 1,2 = 2; quorum 1; point 2 = 1; status 1 = 3; "
            + "status 2 = 2; quorum 2; point 2 = 2; status 1,2 = 3");
    }

    private static void promise8AnAbortedOneIsTheSameDurableOrNot() {
        Run.of("begin = 1; abort 1 = 1; status 1 = 4; quorum 1; point 2 = 1; status 1 = 4");
    }

    private static void promise8OneWithoutRecordsIsActive() {
        Run.of("begin = 1; status 1 = 1; read 1 0 = 0; status 1 = 1; write 1 0 5 = 1; status 1 = 1; quorum 1; status 1 = 1");
    }

    private static void promise8OneThatWasActiveAtACrashUntilTheRecovery() {
        Run.of("begin = 1; begin = 2; write 1 0 5 = 1; quorum 1; crash = true; status 1,2 = 1; recover = 1; status 1 = 4; status 2 = 5");
    }

    private static void promise8EndedOnesAreTheSameWhileTheWriterIsDown() {
        Run.of("begin = 1; begin = 2; begin = 3; commit 1 = 1; abort 2 = 2; commit 3 = 3; quorum 1; crash = true; status 1 = 3; "
            + "status 2 = 4; status 3 = 2");
    }

    private static void promise8OneWhoseRecordsWereAllCut() {
        Run.of("begin = 1; write 1 0 5 = 1; commit 1 = 2; begin = 2; commit 2 = 3; begin = 3; abort 3 = 4; crash = true; recover = 0; "
            + "status 1..3 = 5; status 4 = 0");
    }

    private static void promise8OneWhoseEndAloneWasCutIsRolledBack() {
        Run.of("begin = 1; write 1 0 5 = 1; commit 1 = 2; deliver 1 0 = 2; crash = true; recover = 1; status 1 = 4; point 0 = 3");
    }

    private static void promise8OneThatWasCutStaysSo() {
        Run.of("begin = 1; crash = true; recover = 0; status 1 = 5; crash = true; status 1 = 5; recover = 0; status 1 = 5; begin = 2; "
            + "status 1 = 5; status 2 = 1");
    }

    // Promise 13: crash.

    private static void promise13ANewWriterCrashesOnce() {
        Run.of("crash = true; crash = false; crash = false; recover = 0; crash = true; crash = false");
    }

    private static void promise13TheCacheIsEmpty() {
        Run.of("begin = 1; write 1 0 5 = 1; read 1 4,8,12 = 0; cache 43210000; crash = true; cache 00000000");
    }

    private static void promise13AllReportedPointsAre0() {
        for (int g = 0; g < 2; g++) {
            for (int c = 0; c < 4; c++) {
                Run.of("begin = 1; write 1 " + 4 * g + " 5 = 1; quorum 1; point 1 = 1; fault " + g + " " + c + " 0 = true; point 1 = 1; "
                    + "crash = true; recover = 1; point 1 = 0; fault " + g + " " + c + " 1 = true; point 1 = 0; "
                    + "report " + g + " " + c + " = 1; point 1 = 1");
            }
        }
    }

    private static void promise13WhatIsDurableStays() {
        Run.of("begin = 1; write 1 0 5 = 1; commit 1 = 2; quorum 1..2; follow 0 = 2; crash = true; point 0,2 = 2; copy 0 0 1 = 1; "
            + "copy 1 0 1 = 2; view 0 0 = 5; status 1 = 3");
    }

    private static void promise13ACallOfEachKindThatNeedsTheWriter() {
        Run.of("begin = 1; crash = true; begin = DOWN; read 1 0 = DOWN; write 1 0 1 = DOWN; shift 1 0 1 1 = DOWN; commit 1 = DOWN; "
            + "abort 1 = DOWN; report 0 0 = DOWN; point 1 = DOWN; follow 0 = DOWN; collect 0 0 = DOWN");
    }

    private static void promise13ACallOfEachKindThatDoesNot() {
        Run.of("begin = 1; write 1 0 5 = 1; crash = true; status 1 = 1; deliver 1 0 = 2; gossip 0 0 1 = 1; fault 0 5 0 = true; "
            + "fault 0 5 1 = true; point 0 = 1; point 2 = 0; copy 0 1 1 = 1; view 0 0 = 0; cached 0 = 0");
    }

    // Promise 14: recover.

    private static void promise14AWriterThatIsUpIsBad() {
        Run.of("recover = BAD; crash = true; recover = 0; recover = BAD");
    }

    private static void promise14ThreeLiveCopiesOfEachGroupAreEnough() {
        Run.of("fault 0,1 0..2 0 = true; crash = true; recover = 0; begin = 1");
        Run.of("fault 0,1 3..5 2 = true; crash = true; recover = 0; begin = 1");
    }

    private static void promise14TwoLiveCopiesOfAGroupAreTooFew() {
        Run.of("fault 0 0..3 0 = true; crash = true; recover = AWAY; begin = DOWN; fault 0 3 1 = true; recover = 0; begin = 1");
        Run.of("fault 1 2..5 2 = true; crash = true; recover = AWAY; begin = DOWN");
    }

    private static void promise14ARefusedRecoveryLeavesAllAsItWas() {
        Run.of("begin = 1; write 1 0 5 = 1; write 1 0 6 = 2; deliver 1 0 = 2; fault 0 1..4 0 = true; crash = true; recover = AWAY; point 0 = 2; "
            + "status 1 = 1; begin = DOWN; deliver 2 0 = 2; fault 0 1 1 = true; recover = 2; point 0 = 4; status 1 = 4");
    }

    private static void promise14NoLiveCopyIsTooFew() {
        Run.of("fault 0 0..5 0 = true; crash = true; recover = AWAY; recover = AWAY; begin = DOWN");
        Run.of("fault 1 0..5 2 = true; crash = true; recover = AWAY; recover = AWAY; begin = DOWN");
    }

    private static void promise14BadIsNamedAheadOfAway() {
        Run.of("fault 0,1 0..5 0 = true; recover = BAD");
    }

    private static void promise14AnEmptyLog() {
        Run.of("crash = true; recover = 0; point 0..2 = 0");
    }

    private static void promise14ALogThatNoCopyHolds() {
        Run.of("begin = 1; write 1 0 5 = 1; commit 1 = 2; crash = true; recover = 0; point 0..2 = 0; status 1 = 5; begin = 2; read 2 0 = 0; "
            + "write 2 0 6 = 1");
    }

    private static void promise14ALogThatIsAllHeld() {
        Run.of("begin = 1; write 1 0 5 = 1; commit 1 = 2; deliver 1 5 = 2; deliver 2 4 = 2; crash = true; recover = 2; point 0 = 2; "
            + "point 1,2 = 0; status 1 = 2");
    }

    private static void promise14Record1MissingCutsAll() {
        Run.of("begin = 1; fill 1 0 3; deliver 2,3 0..5 = 2; crash = true; recover = 0; point 0 = 0; copy 0 0..5 2 = 0");
    }

    private static void promise14AGapCutsWhatComesAfterIt() {
        Run.of("begin = 1; write 1 0 5 = 1; write 1 4 5 = 2; write 1 0 6 = 3; deliver 1 0 = 2; deliver 3 0 = 2; crash = true; recover = 1; "
            + "copy 0 0 1 = 1; copy 0 0 2 = 1");
    }

    private static void promise14AStoppedCopyDoesNotCount() {
        Run.of("begin = 1; fill 1 0 2; deliver 1 0,1 = 2; deliver 2 1 = 2; fault 0 1 0 = true; crash = true; recover = 1; "
            + "fault 0 1 1 = true; copy 0 1 1 = 1; copy 0 1 2 = 1");
    }

    private static void promise14AnyOneLiveCopyCounts() {
        for (int c = 0; c < 6; c++) {
            Run.of("begin = 1; write 1 4 5 = 1; deliver 1 " + c + " = 2; crash = true; recover = 1; status 1 = 4");
        }
    }

    private static void promise14ARecordThatDoesNotCloseIsCutToo() {
        Run.of("begin = 1; write 1 0 9 = 1; shift 1 0 1 2 = 3; deliver 1,2 0 = 2; crash = true; recover = 1; point 0 = 3; copy 0 0 2 = 1; "
            + "begin = 2; quorum 3; deliver 2 0..3 = 2; gossip 0 0 1..3 = 1; report 0 1..3 = 2; read 2 0 = 0");
    }

    private static void promise14BothChangesOfAShiftStayWhenHeld() {
        Run.of("begin = 1; write 1 0 9 = 1; shift 1 0 1 2 = 3; deliver 1..3 0 = 2; crash = true; recover = 3; point 0 = 6; copy 0 0 2 = 3");
    }

    private static void promise14MIsNeverLessThanTheDurablePoint() {
        Run.of("begin = 1; write 1 0 5 = 1; quorum 1; write 1 0 6 = 2; fault 0 0..2 2 = true; crash = true; recover = 1; point 2 = 1; "
            + "point 1 = 0");
    }

    private static void promise14TheDurablePointMayRise() {
        Run.of("begin = 1; write 1 0 5 = 1; commit 1 = 2; deliver 1,2 0 = 2; gossip 0,1 0 1..3 = 1; point 1,2 = 0; crash = true; "
            + "recover = 2; point 1,2 = 2; status 1 = 3");
    }

    private static void promise14ThreeReportsDoNotRaiseIt() {
        Run.of("begin = 1; write 1 0 5 = 1; commit 1 = 2; deliver 1,2 0 = 2; gossip 0,1 0 1..2 = 1; crash = true; recover = 2; "
            + "point 1,2 = 0; status 1 = 2");
    }

    private static void promise14StoppedCopiesAreNotReported() {
        Run.of("begin = 1; write 1 0 5 = 1; deliver 1 0..3 = 2; point 1,2 = 1; write 1 0 6 = 2; deliver 2 0 = 2; gossip 0 0 1..3 = 1; "
            + "fault 0 3 0 = true; crash = true; recover = 2; point 1 = 0; point 2 = 1; fault 0 3 1 = true; report 0 3 = 2; point 1,2 = 2");
    }

    private static void promise14RecordsAreTakenOutOfStoppedCopies() {
        Run.of("begin = 1; fill 1 0 3; deliver 1..3 2 = 2; fault 0 2 0 = true; crash = true; recover = 0; fault 0 2 1 = true; "
            + "copy 0 2 1,2 = 0; begin = 2; write 2 0 5 = 1; copy 0 2 1,2 = 0; deliver 1 2 = 2");
    }

    private static void promise14ALostCopyHoldsNothingAfterIt() {
        Run.of("begin = 1; write 1 0 5 = 1; deliver 1 0..1 = 2; fault 0 0 2 = true; crash = true; recover = 1; copy 0 0 0 = 2; "
            + "fault 0 0 3 = true; copy 0 0 1 = 1");
    }

    private static void promise14NoTransactionIsActiveAndNoKeyHeld() {
        Run.of("begin = 1; begin = 2; begin = 3; begin = 4; read 1 0 = 0; read 2 4 = 0; read 3 8 = 0; read 4 31 = 0; crash = true; "
            + "recover = 0; point 0 = 0; commit 1..4 = IDLE; begin = 5; read 5 0,4,8,31 = 0");
    }

    private static void promise14AnEndAtMIsKeptTheNextOneIsCut() {
        Run.of("begin = 1; begin = 2; write 1 0 5 = 1; write 2 8 6 = 2; commit 1 = 3; commit 2 = 4; deliver 1..3 0 = 2; crash = true; "
            + "recover = 3; status 1 = 2; status 2 = 4; point 0 = 5");
    }

    private static void promise14OnesWithoutAChangeAreNotRolledBack() {
        Run.of("begin = 1; begin = 2; read 1 0 = 0; commit 2 = 1; deliver 1 0 = 2; crash = true; recover = 1; point 0 = 1; status 1 = 5");
    }

    private static void promise14OnesThatEndedAreNotRolledBackAgain() {
        Run.of("begin = 1; write 1 0 5 = 1; abort 1 = 3; begin = 2; write 2 0 6 = 4; commit 2 = 5; deliver 1..5 0 = 2; crash = true; "
            + "recover = 5; point 0 = 5; status 1 = 4; status 2 = 2; crash = true; recover = 5; point 0 = 5");
    }

    private static void promise14FourAreRolledBackByAscendingNumbers() {
        // The four ENDs fall to the groups 1, 0, 1, 0, the changes to those of their keys.
        Run.of("begin = 1; begin = 2; begin = 3; begin = 4; write 4 0 5 = 1; write 3 1 5 = 2; write 2 2 5 = 3; write 1 3 5 = 4; "
            + "deliver 1..4 0 = 2; crash = true; recover = 4; point 0 = 12; status 1..4 = 4; "
            + "deliver 6 0 = 2; copy 1 0 2 = 1; deliver 8 0 = 2; copy 1 0 2 = 1; deliver 10 0 = 2; copy 1 0 2 = 2; "
            + "deliver 12 0 = 2; copy 1 0 2 = 2");
    }

    private static void promise14ARollingBackThatWasCutIsDoneAgain() {
        Run.of("begin = 1; write 1 0 5 = 1; deliver 1 0 = 2; crash = true; recover = 1; point 0 = 3; deliver 2 0 = 2; crash = true; "
            + "recover = 1; point 0 = 3; copy 0 0 2 = 1; deliver 2,3 0 = 2; crash = true; recover = 3; point 0 = 3");
    }

    private static void promise14AFullLogIsRolledBackToo() {
        Run run = Run.of("begin = 1; begin = 2; fill 1 0 150");
        for (int l = 1; l <= 150; l++) {
            run.go("deliver " + l + " 3 = 2");
        }
        run.go("crash = true; recover = 150; point 0 = 152; status 1 = 4; status 2 = 5; begin = FULL; crash = true; recover = 150; "
            + "point 0 = 152; deliver 151,152 3 = 2; crash = true; recover = 152; point 0 = 152");
    }

    private static void promise14TheCacheIsEmptyAfterIt() {
        Run.of("begin = 1; write 1 0 5 = 1; deliver 1 0 = 2; crash = true; recover = 1; cache 00000000");
    }

    private static void promise14ViewsStay() {
        Run.of("begin = 1; write 1 0 5 = 1; commit 1 = 2; quorum 1..2; follow 1 = 2; crash = true; recover = 2; view 1 0 = 5; view 0 0 = 0");
    }

    // Promise 15: point.

    private static void promise15TheNumbersAre0To2() {
        Run.of("point 0..2 = 0; point -1,3,MIN,MAX = BAD; crash = true; point -1,3,MIN,MAX = BAD");
    }

    private static void promise15OnlyTheCompletePointNeedsTheWriter() {
        Run.of("begin = 1; write 1 0 5 = 1; quorum 1; write 1 0 6 = 2; point 0 = 2; point 1,2 = 1; crash = true; point 0 = 2; "
            + "point 1 = DOWN; point 2 = 1; recover = 1; point 1 = 1");
    }

    // Promise 20: cached.

    private static void promise20ThePagesAre0To7() {
        Run.of("begin = 1; read 1 0,31 = 0; cached 0 = 2; cached 7 = 1; cached -1,8,MIN,MAX = 0; cached 1..6 = 0");
    }

    private static void promise20NoSuchPageIsCachedEvenInAnEmptyCache() {
        Run.of("cached -1,8,MIN,MAX = 0");
    }

    private static void promise20FourPagesHaveTheNumbers1To4() {
        Run.of("begin = 1; read 1 0,8,16,24 = 0; cache 40302010; read 1 4 = 0; cache 01403020");
    }

    private static void promise20APageThatHasGoneCountsNoMore() {
        Run.of("begin = 1; write 1 0 5 = 1; read 1 4,8,12 = 0; cache 43210000; read 1 16 = 0; cache 40321000; read 1 20 = 0; "
            + "cache 40032100");
    }

    private static void promise20LookingDoesNotTouch() {
        Run.of("begin = 1; read 1 0,4,8,12 = 0; cached 0 = 4; cached 0 = 4; read 1 16 = 0; cached 0 = 0; cached 1 = 4");
    }

    private static void promise20NothingIsCachedWhileTheWriterIsDown() {
        Run.of("begin = 1; read 1 0 = 0; cached 0 = 1; crash = true; cached 0 = 0; recover = 0; cached 0 = 0");
    }
}
