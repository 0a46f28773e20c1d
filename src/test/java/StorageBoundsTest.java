/** The boundaries that promises 9 to 12 and 16 to 19 name, each with a test of its own. */
public final class StorageBoundsTest {
    /** Key 0 is 5: record 1 of group 0 and the END, record 2 of group 1, both durable. */
    private static final String ONE_COMMITTED = "begin = 1; write 1 0 5 = 1; commit 1 = 2; quorum 1..2; ";

    public static void main(String[] args) throws ReflectiveOperationException {
        Check.each(StorageBoundsTest.class, "promise");
        Check.end();
    }

    // Promise 9: deliver.

    private static void promise9NoRecordIsThereYet() {
        Run.of("deliver 0,1,-1,MIN,MAX 0..5 = BAD");
    }

    private static void promise9TheRecordsAre1ToTheLast() {
        Run.of("begin = 1; fill 1 0 3; deliver 0,4,-1,MIN,MAX 0 = BAD; deliver 1 0 = 2; deliver 3 0 = 2; copy 0 0 2 = 2");
    }

    private static void promise9TheCopiesAre0To5() {
        Run.of("begin = 1; write 1 0 5 = 1; deliver 1 -1,6,MIN,MAX = BAD; deliver 1 0 = 2; deliver 1 5 = 2; copy 0 1..4 2 = 0");
    }

    private static void promise9ACutRecordIsThereNoMore() {
        Run.of("begin = 1; fill 1 0 5; deliver 1 0 = 2; crash = true; deliver 5 0 = 2; deliver 6 0 = BAD; recover = 1; point 0 = 3; "
            + "deliver 4,5 0 = BAD; deliver 3 0 = 2");
    }

    private static void promise9ARecordIsNewOnce() {
        Run.of("begin = 1; write 1 0 5 = 1; deliver 1 0 = 2; deliver 1 0 = 1; deliver 1 0 = 1; copy 0 0 2 = 1; deliver 1 1 = 2");
    }

    private static void promise9ACopyThatIsNotLiveTakesNothing() {
        Run.of("begin = 1; write 1 0 5 = 1; fault 0 0 0 = true; fault 0 1 2 = true; deliver 1 0,1 = 0; fault 0 0 1 = true; "
            + "copy 0 0 2 = 0; deliver 1 0 = 2; fault 0 0 0 = true; deliver 1 0 = 0");
    }

    private static void promise9BadIsNamedAheadOfACopyThatIsNotLive() {
        Run.of("begin = 1; write 1 0 5 = 1; fault 0,1 0..5 0 = true; deliver 2 0 = BAD; deliver 0 0 = BAD; deliver 1 6 = BAD; "
            + "deliver 1 -1 = BAD; deliver 1 0 = 0");
    }

    private static void promise9ARecordGoesToItsOwnGroupAlone() {
        Run.of("begin = 1; write 1 0 5 = 1; write 1 4 5 = 2; deliver 1 0 = 2; copy 0 0 2 = 1; copy 1 0 2 = 0; deliver 2 0 = 2; "
            + "copy 0 0 2 = 1; copy 1 0 2 = 1");
    }

    private static void promise9TheStateOfTheOtherGroupsCopyDoesNotMatter() {
        Run.of("begin = 1; write 1 0 5 = 1; write 1 4 5 = 2; fault 1 0 0 = true; deliver 1 0 = 2; deliver 2 0 = 0");
    }

    private static void promise9ANewRecordIsReported() {
        Run.of("begin = 1; write 1 0 5 = 1; deliver 1 0..2 = 2; point 1,2 = 0; deliver 1 3 = 2; point 1,2 = 1");
    }

    private static void promise9AHeldRecordIsReportedToo() {
        Run.of("begin = 1; write 1 0 5 = 1; deliver 1 0..2 = 2; gossip 0 0 3 = 1; point 1 = 0; deliver 1 3 = 1; point 1,2 = 1");
    }

    private static void promise9ThePointIsReportedNotTheRecord() {
        Run.of("begin = 1; fill 1 0 2; deliver 2 0..3 = 2; point 1 = 0; deliver 1 0..3 = 2; point 1 = 2");
    }

    private static void promise9NothingIsReportedToAWriterThatIsDown() {
        Run.of("begin = 1; write 1 0 5 = 1; crash = true; deliver 1 0..3 = 2; deliver 1 0..3 = 1; point 2 = 0; fault 0 0..2 0 = true; "
            + "recover = 1; point 1 = 0; fault 0 0..2 1 = true; point 1 = 0");
    }

    private static void promise9ACopyThatIsNotLiveIsNotReported() {
        Run.of("begin = 1; write 1 0 5 = 1; deliver 1 0..2 = 2; gossip 0 0 3 = 1; fault 0 3 0 = true; deliver 1 3 = 0; point 1 = 0");
    }

    // Promise 10: gossip.

    private static void promise10TheGroupsAre0And1() {
        Run.of("gossip 0,1 0 1 = 0; gossip -1,2,MIN,MAX 0 1 = BAD");
    }

    private static void promise10TheCopiesAre0To5() {
        Run.of("gossip 0,1 0 5 = 0; gossip 0,1 5 0 = 0; gossip 0 -1,6,MIN,MAX 1 = BAD; gossip 0 1 -1,6,MIN,MAX = BAD");
    }

    private static void promise10TheCopiesDiffer() {
        Run.of("gossip 0,1 0 0 = BAD; gossip 0 5 5 = BAD; gossip 0 6 6 = BAD; gossip 0 -1 -1 = BAD");
    }

    private static void promise10NothingToTell() {
        Run.of("begin = 1; write 1 0 5 = 1; gossip 0 0 1 = 0; deliver 1 1 = 2; gossip 0 0 1 = 0; copy 0 1 2 = 1; copy 0 0 2 = 0");
    }

    private static void promise10AllIsNew() {
        Run.of("begin = 1; fill 1 0 3; deliver 1..3 0 = 2; gossip 0 0 5 = 3; gossip 0 0 5 = 0; copy 0 5 1 = 3");
    }

    private static void promise10AnyCopyTellsAnyOther() {
        for (int from = 0; from < 6; from++) {
            for (int to = 0; to < 6; to++) {
                if (from != to) {
                    Run.of("begin = 1; write 1 4 5 = 1; deliver 1 " + from + " = 2; gossip 1 " + from + " " + to + " = 1; copy 1 " + to
                        + " 1,2 = 1; gossip 1 " + to + " " + from + " = 0");
                }
            }
        }
    }

    private static void promise10OnlyWhatIsNewCounts() {
        Run.of("begin = 1; fill 1 0 4; deliver 1,2,3 0 = 2; deliver 3,4 1 = 2; gossip 0 0 1 = 2; copy 0 1 1 = 4; copy 0 0 1 = 3");
    }

    private static void promise10EitherCopyThatIsNotLiveIsAway() {
        Run.of("begin = 1; write 1 0 5 = 1; deliver 1 0..1 = 2; fault 0 0 0 = true; gossip 0 0 2 = AWAY; gossip 0 2 0 = AWAY; "
            + "fault 0 1 2 = true; gossip 0 1 2 = AWAY; gossip 0 2 1 = AWAY; gossip 0 0 1 = AWAY; copy 0 2 2 = 0; gossip 1 0 1 = 0");
    }

    private static void promise10ARefusedGossipTellsNothing() {
        Run.of("begin = 1; write 1 0 5 = 1; deliver 1 0 = 2; fault 0 1 0 = true; gossip 0 0 1 = AWAY; fault 0 1 1 = true; copy 0 1 1,2 = 0");
        Run.of("begin = 1; write 1 0 5 = 1; deliver 1 0 = 2; fault 0 0 0 = true; gossip 0 0 1 = AWAY; copy 0 1 1,2 = 0");
    }

    private static void promise10ARefusedGossipCarriesNoFold() {
        Run.of(ONE_COMMITTED + "follow 0,1 = 2; collect 0 0 = 1; fault 0 1 0 = true; gossip 0 0 1 = AWAY; fault 0 1 1 = true; copy 0 1 2 = 1");
        Run.of(ONE_COMMITTED + "follow 0,1 = 2; collect 0 0 = 1; fault 0 0 0 = true; gossip 0 0 1 = AWAY; copy 0 1 2 = 1");
    }

    private static void promise10BadIsNamedAheadOfAway() {
        Run.of("fault 0,1 0..5 0 = true; gossip 0 0 0 = BAD; gossip 0 0 6 = BAD; gossip 0 6 0 = BAD; gossip 2 0 1 = BAD; gossip 0 0 1 = AWAY");
    }

    private static void promise10AGreaterFoldIsTaken() {
        Run.of(ONE_COMMITTED + "follow 0,1 = 2; collect 0 0 = 1; copy 0 1 2 = 1; gossip 0 0 1 = 0; copy 0 1 2 = 0");
    }

    private static void promise10ALesserFoldIsNotTaken() {
        Run.of(ONE_COMMITTED + "follow 0,1 = 2; collect 0 0 = 1; gossip 0 1 0 = 0; copy 0 0 2 = 0");
    }

    private static void promise10NewRecordsUpToTheFoldCountToo() {
        Run.of(ONE_COMMITTED + "follow 0,1 = 2; collect 0 0 = 1; gossip 0 0 5 = 1; copy 0 5 1 = 1; copy 0 5 2 = 0");
    }

    private static void promise10NothingIsReported() {
        Run.of("begin = 1; write 1 0 5 = 1; deliver 1 0 = 2; gossip 0 0 1..5 = 1; point 1,2 = 0; deliver 1 1..2 = 1; point 1 = 0; "
            + "deliver 1 3 = 1; point 1 = 1");
    }

    private static void promise10AWriterThatIsDownDoesNotMatter() {
        Run.of("begin = 1; write 1 0 5 = 1; crash = true; deliver 1 0 = 2; gossip 0 0 1 = 1");
    }

    // Promise 11: report.

    private static void promise11TheGroupsAre0And1AndTheCopies0To5() {
        Run.of("report 0,1 0..5 = 0; report -1,2,MIN,MAX 0 = BAD; report 0 -1,6,MIN,MAX = BAD; report 1 -1,6,MIN,MAX = BAD");
    }

    private static void promise11AnEmptyCopyReports0() {
        Run.of("begin = 1; write 1 0 5 = 1; report 0,1 0..5 = 0; point 1 = 0");
    }

    private static void promise11ACopyWithAGapReportsItsPoint() {
        Run.of("begin = 1; fill 1 0 3; deliver 1,3 0 = 2; report 0 0 = 1; deliver 2 0 = 2; report 0 0 = 3");
    }

    private static void promise11TheFourthReportMakesTheGroupsPoint() {
        Run.of("begin = 1; write 1 0 5 = 1; deliver 1 0 = 2; gossip 0 0 1..5 = 1; report 0 1..2 = 1; point 1,2 = 0; report 0 3 = 1; "
            + "point 1,2 = 1");
    }

    private static void promise11ACopyThatIsNotLiveIsAway() {
        Run.of("fault 0 0 0 = true; fault 0 1 2 = true; report 0 0,1 = AWAY; report 1 0,1 = 0");
    }

    private static void promise11ARefusedReportReportsNothing() {
        Run.of("begin = 1; write 1 0 5 = 1; deliver 1 0..2 = 2; gossip 0 0 3 = 1; fault 0 3 0 = true; report 0 3 = AWAY; point 1,2 = 0; "
            + "fault 0 3 1 = true; point 1,2 = 0; report 0 3 = 1; point 1,2 = 1");
    }

    private static void promise11AReportToAWriterThatIsDownIsLost() {
        Run.of("begin = 1; write 1 0 5 = 1; crash = true; deliver 1 0..3 = 2; report 0 0..3 = DOWN; fault 0 0 0 = true; recover = 1; "
            + "point 1 = 0; fault 0 0 1 = true; point 1 = 0; report 0 0 = 1; point 1 = 1");
    }

    private static void promise11BadIsNamedAheadOfDown() {
        Run.of("crash = true; report 2,-1 0 = BAD; report 0 6,-1 = BAD; report 0 0 = DOWN");
    }

    private static void promise11DownIsNamedAheadOfAway() {
        Run.of("fault 0 0 0 = true; fault 0 1 2 = true; crash = true; report 0 0,1 = DOWN");
    }

    // Promise 12: fault.

    private static void promise12TheGroupsAre0And1() {
        Run.of("fault -1,2,MIN,MAX 0 0..3 = false; fault 0,1 0 0 = true; fault 0,1 1 2 = true");
    }

    private static void promise12TheCopiesAre0To5() {
        Run.of("fault 0,1 -1,6,MIN,MAX 0..3 = false; fault 0,1 0 0 = true; fault 0,1 5 0 = true; copy 0,1 1..4 0 = 0");
    }

    private static void promise12WhatBefallsIs0To3() {
        Run.of("fault 0 0 -1,4,MIN,MAX = false; copy 0 0 0 = 0; fault 0 0 0 = true; fault 0 0 -1,4,MIN,MAX = false; copy 0 0 0 = 1; "
            + "fault 0 0 2 = true; fault 0 0 -1,4,MIN,MAX = false; copy 0 0 0 = 2");
    }

    private static void promise12ALiveOneIsStoppedOrLost() {
        Run.of("fault 0 0 1,3 = false; copy 0 0 0 = 0; fault 0 0 0 = true; copy 0 0 0 = 1");
        Run.of("fault 0 0 1,3 = false; fault 0 0 2 = true; copy 0 0 0 = 2");
    }

    private static void promise12AStoppedOneIsLiveOrLost() {
        Run.of("fault 0 0 0 = true; fault 0 0 0,3 = false; copy 0 0 0 = 1; fault 0 0 1 = true; copy 0 0 0 = 0");
        Run.of("fault 0 0 0 = true; fault 0 0 2 = true; copy 0 0 0 = 2");
    }

    private static void promise12ALostOneIsOnlyLiveAgain() {
        Run.of("fault 0 0 2 = true; fault 0 0 0,1,2 = false; copy 0 0 0 = 2; fault 0 0 3 = true; copy 0 0 0 = 0");
    }

    private static void promise12AStoppedOneHoldsWhatItHeld() {
        Run.of(ONE_COMMITTED + "follow 0,1 = 2; collect 0 0 = 1; fault 0 0 0 = true; point 1 = 2; fault 0 0 1 = true; copy 0 0 1 = 1; "
            + "copy 0 0 2 = 0; point 1 = 2; report 0 0 = 1");
    }

    private static void promise12ALostOneHoldsNothing() {
        Run.of("begin = 1; write 1 0 5 = 1; deliver 1 0 = 2; fault 0 0 2 = true; fault 0 0 3 = true; copy 0 0 1,2 = 0; deliver 1 0 = 2");
    }

    private static void promise12TheFoldOfALostOneIs0() {
        Run.of(ONE_COMMITTED + "follow 0,1 = 2; collect 0 0 = 1; fault 0 0 2 = true; fault 0 0 3 = true; copy 0 0 1 = 1; copy 0 0 2 = 1; "
            + "collect 0 0 = 1");
    }

    private static void promise12TheReportedPointOfALostOneIs0() {
        Run.of(ONE_COMMITTED + "point 1 = 2; fault 0 3 2 = true; point 1 = 0; fault 0 3 3 = true; copy 0 3 1 = 1; point 1 = 0; "
            + "report 0 3 = 1; point 1 = 2");
    }

    private static void promise12AStoppedOneThatIsLostIsReported0Too() {
        Run.of(ONE_COMMITTED + "fault 1 0 0 = true; point 1 = 2; fault 1 0 2 = true; point 1 = 1; point 2 = 2");
    }

    private static void promise12ThreeLiveCopiesMendALostOne() {
        Run.of("fault 0 0..2 2 = true; fault 0 0 3 = true; copy 0 0 0 = 0");
        Run.of("fault 0 0 2 = true; fault 0 1..2 0 = true; fault 0 0 3 = true");
    }

    private static void promise12TwoLiveCopiesDoNot() {
        Run.of("fault 0 0..3 2 = true; fault 0 0..3 3 = false; copy 0 0..3 0 = 2; copy 0 4,5 0 = 0");
        Run.of("fault 0 0 2 = true; fault 0 1..3 0 = true; fault 0 0 3 = false; fault 0 3 1 = true; fault 0 0 3 = true");
    }

    private static void promise12ARefusedMendingGivesNothing() {
        Run.of("begin = 1; write 1 0 5 = 1; deliver 1 0,1 = 2; fault 0 2..4 0 = true; fault 0 5 2 = true; fault 0 5 3 = false; "
            + "fault 0 0,1 0 = true; fault 0 2..4 1 = true; fault 0 5 3 = true; copy 0 5 1,2 = 0");
    }

    private static void promise12TheOtherGroupDoesNotMend() {
        Run.of("fault 0 0..5 2 = true; fault 0 0..5 3 = false; copy 1 0..5 0 = 0");
        Run.of("fault 1 0..3 2 = true; fault 1 0..3 3 = false; copy 0 0..5 0 = 0");
    }

    private static void promise12AMendedOneHoldsWhatAnyLiveOneHolds() {
        Run.of("begin = 1; fill 1 0 4; deliver 1 1 = 2; deliver 2 2 = 2; deliver 3 5 = 2; deliver 4 4 = 2; fault 0 4 0 = true; "
            + "fault 0 0 2 = true; fault 0 0 3 = true; copy 0 0 1 = 3; copy 0 0 2 = 3");
    }

    private static void promise12AnyLiveCopyMendsAnyLostOne() {
        for (int from = 0; from < 6; from++) {
            for (int lost = 0; lost < 6; lost++) {
                if (from != lost) {
                    Run.of("begin = 1; write 1 0 5 = 1; deliver 1 " + from + " = 2; fault 0 " + lost + " 2 = true; fault 0 " + lost
                        + " 3 = true; copy 0 " + lost + " 1,2 = 1");
                }
            }
        }
    }

    private static void promise12AMendedOneHasTheGreatestFoldOfLiveOnes() {
        Run.of(ONE_COMMITTED + "begin = 2; write 2 0 6 = 3; commit 2 = 4; quorum 3..4; follow 0,1 = 4; collect 0 1 = 3; "
            + "fault 0 0 2 = true; fault 0 0 3 = true; copy 0 0 2 = 0; "
            + "fault 0 1 0 = true; fault 0 0 2 = true; fault 0 0 3 = true; copy 0 0 2 = 3");
    }

    private static void promise12AWriterThatIsDownDoesNotMatter() {
        Run.of("crash = true; fault 0 0 0 = true; fault 0 0 1 = true; fault 0 0 2 = true; fault 0 0 3 = true; copy 0 0 0 = 0");
    }

    // Promise 16: copy.

    private static void promise16TheGroupsAre0And1() {
        Run.of("copy 0,1 0 0..2 = 0; copy -1,2,MIN,MAX 0 0..2 = BAD");
    }

    private static void promise16TheCopiesAre0To5() {
        Run.of("copy 0,1 0,5 0..2 = 0; copy 0,1 -1,6,MIN,MAX 0..2 = BAD");
    }

    private static void promise16WhatIsAskedIs0To2() {
        Run.of("copy 0,1 0..5 -1,3,MIN,MAX = BAD; fault 0 0 0 = true; fault 0 1 2 = true; copy 0 0..1 -1,3,MIN,MAX = BAD");
    }

    private static void promise16OnlyTheStateIsToldOfOneThatIsNotLive() {
        Run.of("fault 0 0 0 = true; fault 0 1 2 = true; copy 0 0 0 = 1; copy 0 1 0 = 2; copy 0 0,1 1,2 = BAD; copy 0 2 0..2 = 0; "
            + "copy 1 0,1 0..2 = 0");
    }

    private static void promise16ThePointAndWhatIsKeptDiffer() {
        Run.of("begin = 1; fill 1 0 4; deliver 1,2,4 0 = 2; copy 0 0 1 = 2; copy 0 0 2 = 3");
    }

    private static void promise16FoldedRecordsAreNotKeptButHeld() {
        Run.of(ONE_COMMITTED + "follow 0,1 = 2; collect 0 0 = 1; copy 0 0 1 = 1; copy 0 0 2 = 0; deliver 1 0 = 1");
    }

    private static void promise16AWriterThatIsDownDoesNotMatter() {
        Run.of(ONE_COMMITTED + "crash = true; copy 0 0 0 = 0; copy 0 0 1,2 = 1; copy 1 0 1 = 2; copy 1 0 2 = 1");
    }

    // Promise 17: follow.

    private static void promise17TheReplicasAre0And1() {
        Run.of("follow 0,1 = 0; follow -1,2,MIN,MAX = BAD");
    }

    private static void promise17NothingIsDurableYet() {
        Run.of("begin = 1; write 1 0 5 = 1; commit 1 = 2; deliver 1 0..2 = 2; follow 0,1 = 0; view 0,1 0 = 0");
    }

    private static void promise17EachReplicaFollowsForItself() {
        Run.of(ONE_COMMITTED + "follow 1 = 2; view 1 0 = 5; view 0 0 = 0; follow 0 = 2; view 0 0 = 5");
    }

    private static void promise17TheViewIsTheDurablePointNotTheCompleteOne() {
        Run.of("begin = 1; write 1 0 5 = 1; shift 1 0 1 1 = 3; quorum 1..2; point 1 = 2; follow 0 = 1");
    }

    private static void promise17TheViewDoesNotSinkWithTheCompletePoint() {
        Run.of(ONE_COMMITTED + "fault 0,1 0 2 = true; point 1 = 0; follow 0 = 2; view 0 0 = 5");
    }

    private static void promise17AWriterThatIsDownIsNotFollowed() {
        Run.of(ONE_COMMITTED + "crash = true; follow 0,1 = DOWN; view 0,1 0 = 0; recover = 2; follow 0 = 2; view 0 0 = 5");
    }

    private static void promise17BadIsNamedAheadOfDown() {
        Run.of("crash = true; follow -1,2,MIN,MAX = BAD; follow 0,1 = DOWN");
    }

    // Promise 18: view.

    private static void promise18TheReplicasAre0And1() {
        Run.of("view 0,1 0 = 0; view -1,2,MIN,MAX 0 = BAD");
    }

    private static void promise18TheKeysAre0To31() {
        Run.of("view 0,1 0,31 = 0; view 0,1 -1,32,MIN,MAX = BAD");
    }

    private static void promise18NoReplicaAndNoKey() {
        Run.of("view -1,2,MIN,MAX -1,32,MIN,MAX = BAD");
    }

    private static void promise18TheGreatestValueIsSeen() {
        Run.of("begin = 1; write 1 31 9999 = 1; commit 1 = 2; quorum 1..2; follow 0 = 2; view 0 31 = 9999; view 0 30 = 0");
    }

    private static void promise18NoLiveCopyIsAwayEvenAtView0() {
        Run.of("fault 0 0..5 0 = true; view 0,1 0 = AWAY; view 0,1 27 = AWAY; view 0,1 4,31 = 0; fault 0 3 1 = true; view 0,1 0 = 0");
        Run.of("fault 1 0..5 2 = true; view 0,1 4,31 = AWAY; view 0,1 0,27 = 0");
    }

    private static void promise18AnyOneLiveCopyThatHoldsAllServes() {
        for (int c = 0; c < 6; c++) {
            Run.of(ONE_COMMITTED + "deliver 1 4..5 = 2; follow 0 = 2; fault 0 0..5 0 = true; view 0 0 = AWAY; fault 0 " + c
                + " 1 = true; view 0 0 = 5");
        }
    }

    private static void promise18OneThatLacksARecordOfTheViewIsAway() {
        Run.of(ONE_COMMITTED + "follow 0 = 2; fault 0 0..3 0 = true; view 0 0,8 = AWAY; view 1 0 = 0; view 0 4 = 0; deliver 1 4 = 2; "
            + "view 0 0 = 5");
    }

    private static void promise18OneThatLacksALaterRecordServes() {
        Run.of(ONE_COMMITTED + "follow 0 = 2; begin = 2; write 2 0 6 = 3; commit 2 = 4; quorum 3..4; deliver 1 5 = 2; "
            + "fault 0 0..4 0 = true; view 0 0 = 5; follow 1 = 4; view 1 0 = AWAY");
    }

    private static void promise18OneThatLacksTheRecordAtTheViewIsAway() {
        Run.of("begin = 1; fill 1 0 2; quorum 1..2; deliver 1 4..5 = 2; follow 0 = 2; fault 0 0..3 0 = true; view 0 0 = AWAY; "
            + "deliver 2 5 = 2; view 0 0 = 0");
    }

    private static void promise18TheOtherGroupsRecordsAreNotAskedFor() {
        Run.of(ONE_COMMITTED + "follow 0 = 2; fault 1 0..5 2 = true; view 0 0 = 5; view 0 4 = AWAY");
    }

    private static void promise18BadIsNamedAheadOfAway() {
        Run.of("fault 0,1 0..5 0 = true; view -1,2,MIN,MAX 0 = BAD; view 0 -1,32,MIN,MAX = BAD; view 0 0 = AWAY");
    }

    private static void promise18AWriterThatIsDownDoesNotMatter() {
        Run.of(ONE_COMMITTED + "follow 0 = 2; crash = true; view 0 0 = 5; fault 0 0..5 0 = true; view 0 0 = AWAY");
    }

    // Promise 19: collect.

    private static void promise19TheGroupsAre0And1AndTheCopies0To5() {
        Run.of("collect 0,1 0..5 = 0; collect -1,2,MIN,MAX 0 = BAD; collect 0 -1,6,MIN,MAX = BAD; collect 1 -1,6,MIN,MAX = BAD");
    }

    private static void promise19ViewsOf0HoldAllBack() {
        Run.of(ONE_COMMITTED + "collect 0 0 = 0; copy 0 0 2 = 1");
    }

    private static void promise19EitherViewHoldsBack() {
        Run.of(ONE_COMMITTED + "follow 0 = 2; collect 0 0 = 0; follow 1 = 2; collect 0 0 = 1");
        Run.of(ONE_COMMITTED + "follow 1 = 2; collect 0 0 = 0; follow 0 = 2; collect 0 0 = 1");
    }

    private static void promise19TheFoldIsTheLesserOfTheViews() {
        for (int first = 0; first < 2; first++) {
            Run.of(ONE_COMMITTED + "follow " + first + " = 2; begin = 2; write 2 0 6 = 3; commit 2 = 4; quorum 3..4; "
                + "follow " + (1 - first) + " = 4; collect 0 0 = 1; copy 0 0 2 = 2; follow " + first + " = 4; collect 0 0 = 2; copy 0 0 2 = 0");
        }
    }

    private static void promise19TheFoldIsNotGreaterThanThePoint() {
        Run.of("begin = 1; fill 1 0 3; commit 1 = 4; quorum 1..4; follow 0,1 = 4; deliver 1,3 5 = 2; collect 0 5 = 1; copy 0 5 2 = 1; "
            + "deliver 2 5 = 2; copy 0 5 1 = 3; copy 0 5 2 = 2; collect 0 5 = 2; copy 0 5 2 = 0");
    }

    private static void promise19AnEmptyCopyFoldsNothing() {
        Run.of(ONE_COMMITTED + "follow 0,1 = 2; collect 0,1 5 = 0; deliver 1 5 = 2; copy 0 5 2 = 1; collect 0 5 = 1");
    }

    private static void promise19TheSecondTimeNothingIsNew() {
        Run.of(ONE_COMMITTED + "follow 0,1 = 2; collect 0 0 = 1; collect 0 0 = 0; copy 0 0 2 = 0");
    }

    private static void promise19TheLowOfAViewHoldsBack() {
        Run.of("begin = 1; begin = 2; write 2 0 5 = 1; write 1 8 5 = 2; commit 2 = 3; quorum 1..3; follow 0,1 = 3; collect 0 0 = 1; "
            + "copy 0 0 2 = 2");
    }

    private static void promise19RecordsOfTheOtherGroupDoNotCount() {
        Run.of("begin = 1; write 1 4 5 = 1; write 1 4 6 = 2; write 1 0 5 = 3; commit 1 = 4; quorum 1..4; follow 0,1 = 4; "
            + "collect 0 0 = 1; collect 1 0 = 3; copy 0,1 0 2 = 0");
    }

    private static void promise19AFoldMayLieBetweenRecordsOfTheGroup() {
        // The fold is 2, the low; record 2 is of the other group, and record 3 is kept.
        Run.of(ONE_COMMITTED + "begin = 2; write 2 0 6 = 3; quorum 3; follow 0,1 = 3; collect 0 0 = 1; copy 0 0 2 = 1; "
            + "commit 2 = 4; quorum 4; follow 0,1 = 4; collect 0 0 = 2; copy 0 0 2 = 0");
    }

    private static void promise19ACopyThatIsNotLiveIsAway() {
        Run.of("fault 0 0 0 = true; fault 0 1 2 = true; collect 0 0,1 = AWAY; collect 0 2..5 = 0; collect 1 0,1 = 0");
    }

    private static void promise19ARefusedCollectFoldsNothing() {
        Run.of(ONE_COMMITTED + "follow 0,1 = 2; fault 0 0 0 = true; collect 0 0 = AWAY; fault 0 0 1 = true; copy 0 0 2 = 1; crash = true; "
            + "collect 0 0 = DOWN; copy 0 0 2 = 1");
    }

    private static void promise19BadIsNamedAheadOfDown() {
        Run.of("crash = true; collect 2,-1 0 = BAD; collect 0 6,-1 = BAD; collect 0 0 = DOWN");
    }

    private static void promise19DownIsNamedAheadOfAway() {
        Run.of("fault 0 0 0 = true; fault 0 1 2 = true; crash = true; collect 0 0,1 = DOWN");
    }

    private static void promise19FoldsOutliveARecovery() {
        Run.of(ONE_COMMITTED + "follow 0,1 = 2; collect 0 0 = 1; begin = 2; write 2 0 6 = 3; deliver 3 0 = 2; crash = true; copy 0 0 2 = 1; "
            + "recover = 3; copy 0 0 2 = 1; copy 0 1 2 = 1; copy 0 0 1 = 3");
    }
}
