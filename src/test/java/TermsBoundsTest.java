/** The sentences of the document's terms that name a boundary, each with a test of its own. */
public final class TermsBoundsTest {
    public static void main(String[] args) throws ReflectiveOperationException {
        Check.each(TermsBoundsTest.class, "terms");
        Check.end();
    }

    // Keys, pages and groups.

    private static void termsEveryKeyHasTheValue0AtFirst() {
        Run.of("begin = 1; read 1 0..31 = 0; view 0,1 0..31 = 0");
    }

    private static void termsAPageEndsBetweenKeys3And4() {
        Run.of("begin = 1; read 1 3 = 0; cache 10000000; read 1 4 = 0; cache 21000000");
    }

    private static void termsTheLastPageHasTheKeys28To31() {
        Run.of("begin = 1; read 1 31 = 0; cache 00000001; read 1 28 = 0; cache 00000001; "
            + "read 1 27 = 0; cache 00000012");
    }

    private static void termsPagesLieInGroupsByTurns() {
        Run.of("begin = 1; write 1 3 1 = 1; write 1 4 1 = 2; write 1 27 1 = 3; write 1 28 1 = 4; "
            + "deliver 1..4 0 = 2; copy 0 0 1 = 3; copy 0 0 2 = 2; copy 1 0 1 = 4; copy 1 0 2 = 2");
    }

    private static void termsAnEndLiesInTheGroupOfItsTransactionNumber() {
        Run.of("begin = 1; begin = 2; commit 1 = 1; abort 2 = 2; deliver 1,2 0 = 2; "
            + "copy 1 0 1 = 1; copy 1 0 2 = 1; copy 0 0 1 = 2; copy 0 0 2 = 1");
    }

    // Records that close.

    private static void termsAWriteCloses() {
        Run.of("begin = 1; write 1 0 5 = 1; quorum 1; point 1,2 = 1");
    }

    private static void termsOnlyTheSecondChangeOfAShiftCloses() {
        Run.of("begin = 1; write 1 0 5 = 1; shift 1 0 1 5 = 3; quorum 1..2; point 1 = 2; point 2 = 1; "
            + "quorum 3; point 1,2 = 3");
    }

    private static void termsAnEndThatCommitsCloses() {
        Run.of("begin = 1; commit 1 = 1; quorum 1; point 1,2 = 1");
    }

    private static void termsAnEndThatAbortsCloses() {
        Run.of("begin = 1; abort 1 = 1; quorum 1; point 1,2 = 1");
    }

    private static void termsAChangeOfRollingBackDoesNotClose() {
        Run.of("begin = 1; write 1 0 5 = 1; abort 1 = 3; quorum 1..2; point 1 = 2; point 2 = 1; "
            + "quorum 3; point 1,2 = 3");
    }

    // Values.

    private static void termsTheValueIsThatOfTheGreatestChange() {
        Run.of("begin = 1; write 1 0 5 = 1; write 1 1 8 = 2; write 1 0 6 = 3; read 1 0 = 6; read 1 1 = 8; read 1 2 = 0");
    }

    // Rolling back.

    private static void termsRollingBackNoChangeAddsTheEndAlone() {
        Run.of("begin = 1; read 1 0 = 0; abort 1 = 1; point 0 = 1");
    }

    private static void termsRollingBackAKeyOfTwoChangesAddsOneChange() {
        Run.of("begin = 1; write 1 0 5 = 1; write 1 0 6 = 2; abort 1 = 4; begin = 2; read 2 0 = 0");
    }

    private static void termsRollingBackAShiftAddsBothKeys() {
        Run.of("begin = 1; write 1 0 5 = 1; commit 1 = 2; begin = 2; shift 2 0 1 3 = 4; abort 2 = 7; "
            + "begin = 3; read 3 0 = 5; read 3 1 = 0");
    }

    private static void termsRollingBackAllKeysAddsAChangeOfEach() {
        Run run = Run.of("begin = 1");
        for (int page = 0; page < 8; page++) {
            for (int l = 4 * page + 1; l <= 4 * page + 4; l++) {
                run.go("write 1 " + (l - 1) + " 77 = " + l);
            }
            run.go("quorum " + (4 * page + 1) + ".." + (4 * page + 4));
        }
        run.go("abort 1 = 65; quorum 33..65; point 2 = 65; begin = 2; read 2 0..31 = 0");
    }

    private static void termsRollingBackGoesByAscendingKeys() {
        Run.of("begin = 1; write 1 4 5 = 1; write 1 0 5 = 2; abort 1 = 5; "
            + "deliver 3 0 = 2; copy 0 0 2 = 1; copy 1 0 2 = 0; "
            + "deliver 4 0 = 2; copy 1 0 2 = 1; copy 0 0 2 = 1");
    }

    private static void termsRollingBackEndsWithTheEnd() {
        Run.of("begin = 1; begin = 2; write 2 4 5 = 1; abort 2 = 3; "
            + "deliver 2 0 = 2; copy 1 0 2 = 1; deliver 3 0 = 2; copy 0 0 2 = 1; status 2 = 4");
    }

    private static void termsRollingBackGivesTheValueAheadOfTheFirstChange() {
        Run.of("begin = 1; write 1 0 5 = 1; write 1 0 6 = 2; commit 1 = 3; "
            + "begin = 2; write 2 0 7 = 4; write 2 0 8 = 5; abort 2 = 7; begin = 3; read 3 0 = 6");
    }

    private static void termsRollingBackGives0WhenThereWasNoChange() {
        Run.of("begin = 1; write 1 0 5 = 1; commit 1 = 2; begin = 2; write 2 1 9999 = 3; abort 2 = 5; "
            + "begin = 3; read 3 1 = 0; read 3 0 = 5");
    }

    private static void termsRollingBackTouchesNoPage() {
        Run.of("begin = 1; write 1 0 5 = 1; quorum 1; read 1 4 = 0; read 1 8 = 0; read 1 12 = 0; read 1 16 = 0; "
            + "cache 04321000; abort 1 = 3; cache 04321000");
    }

    // The point of a copy.

    private static void termsThePointOfAnEmptyCopyIs0() {
        Run.of("begin = 1; copy 0,1 0..5 1 = 0; write 1 0 5 = 1; copy 0,1 0..5 1 = 0");
    }

    private static void termsThePointIs0WithoutTheFirstRecordOfTheGroup() {
        Run.of("begin = 1; write 1 0 5 = 1; write 1 0 6 = 2; deliver 2 0 = 2; copy 0 0 1 = 0; "
            + "deliver 1 0 = 2; copy 0 0 1 = 2");
    }

    private static void termsThePointStopsAheadOfAGap() {
        Run.of("begin = 1; write 1 0 5 = 1; write 1 0 6 = 2; write 1 0 7 = 3; deliver 1,3 0 = 2; "
            + "copy 0 0 1 = 1; deliver 2 0 = 2; copy 0 0 1 = 3");
    }

    private static void termsRecordsOfTheOtherGroupAreNoGap() {
        Run.of("begin = 1; write 1 0 5 = 1; write 1 4 6 = 2; write 1 0 7 = 3; write 1 4 8 = 4; "
            + "deliver 1,3 0 = 2; copy 0 0 1 = 3; deliver 2 0 = 2; copy 1 0 1 = 2; deliver 4 0 = 2; copy 1 0 1 = 4");
    }

    // The fold, and what is kept.

    private static void termsAllHeldRecordsAreKeptAtFirst() {
        Run.of("begin = 1; write 1 0 5 = 1; write 1 0 6 = 2; write 1 0 7 = 3; deliver 1,3 0 = 2; copy 0 0 2 = 2");
    }

    private static void termsTheRecordAtTheFoldIsFoldedTheNextOneIsKept() {
        Run.of("begin = 1; write 1 0 5 = 1; commit 1 = 2; begin = 2; write 2 0 6 = 3; quorum 1..3; follow 0,1 = 3; "
            + "copy 0 0 2 = 2; collect 0 0 = 1; copy 0 0 2 = 1");
    }

    // Reported points, and the points of the groups.

    private static void termsReportedPointsAre0AtFirst() {
        Run.of("begin = 1; commit 1 = 1; point 1,2 = 0");
    }

    private static void termsThreeReportedPointsAreTooFew() {
        Run.of("begin = 1; write 1 0 5 = 1; deliver 1 3..5 = 2; point 1,2 = 0; deliver 1 0 = 2; point 1,2 = 1");
    }

    private static void termsThePointOfAGroupIsTheFourthGreatestOfSix() {
        Run.of("begin = 1; fill 1 0 6; deliver 1 0..5 = 2; deliver 2 0..4 = 2; deliver 3 0..3 = 2; "
            + "deliver 4 0..2 = 2; deliver 5 0..1 = 2; deliver 6 0 = 2; point 1,2 = 3; "
            + "deliver 4 3 = 2; point 1,2 = 4; deliver 3 4 = 2; deliver 4 4 = 2; point 1,2 = 4; "
            + "deliver 5 2 = 2; point 1,2 = 4; deliver 5 4 = 2; point 1,2 = 5");
    }

    private static void termsTheFourthMayBeAnyOfTheCopies() {
        for (int out = 0; out < 6; out++) {
            Run run = Run.of("begin = 1; write 1 0 5 = 1; fault 0 " + out + " 0 = true");
            for (int step = 1; step <= 4; step++) {
                run.go("deliver 1 " + (out + step) % 6 + " = 2; point 1 = " + step / 4);
            }
        }
    }

    private static void termsTheFourthGreatestMayBeThatOfAnyCopy() {
        for (int c = 0; c < 6; c++) {
            Run run = Run.of("begin = 1; fill 1 0 2; deliver 1 " + c + " = 2");
            for (int step = 1; step <= 3; step++) {
                run.go("point 1 = 0; deliver 1,2 " + (c + step) % 6 + " = 2");
            }
            run.go("point 1,2 = 1");
        }
    }

    // The complete point.

    private static void termsTheCompletePointOfAnEmptyLogIs0() {
        Run.of("point 1 = 0; report 0,1 0..5 = 0; point 1 = 0");
    }

    private static void termsTheCompletePointMayBeTheWholeLog() {
        Run.of("begin = 1; write 1 0 5 = 1; commit 1 = 2; quorum 1..2; point 0,1 = 2");
    }

    private static void termsTheCompletePointWaitsForTheOtherGroup() {
        Run.of("begin = 1; write 1 0 5 = 1; write 1 4 5 = 2; write 1 0 6 = 3; quorum 1; quorum 3; point 1 = 1; "
            + "deliver 2 0..2 = 2; point 1 = 1; deliver 2 3 = 2; point 1 = 3");
    }

    private static void termsTheCompletePointWaitsForTheFirstRecord() {
        Run.of("begin = 1; write 1 0 5 = 1; write 1 4 5 = 2; quorum 2; point 1,2 = 0; quorum 1; point 1,2 = 2");
    }

    private static void termsTheCompletePointMaySink() {
        Run.of("begin = 1; write 1 0 5 = 1; quorum 1; point 1 = 1; fault 0 0 2 = true; point 1 = 0");
    }

    // The durable point.

    private static void termsTheDurablePointIsTheGreatestThatCloses() {
        Run.of("begin = 1; fill 1 0 3; deliver 2,3 0..3 = 2; deliver 1 0..2 = 2; point 2 = 0; deliver 1 3 = 2; point 2 = 3");
    }

    private static void termsTheDurablePointStaysAtTheLastThatCloses() {
        Run.of("begin = 1; write 1 0 9 = 1; shift 1 0 4 1 = 3; quorum 1; point 2 = 1; quorum 2; point 2 = 1; "
            + "deliver 3 0..2 = 2; point 2 = 1; deliver 3 5 = 2; point 2 = 3");
    }

    private static void termsTheDurablePointNeverSinks() {
        Run.of("begin = 1; write 1 0 5 = 1; quorum 1; fault 0 0..5 2 = true; point 1 = 0; point 2 = 1; "
            + "crash = true; point 2 = 1");
    }

    private static void termsAChangeOfRollingBackInARecoveryDoesNotClose() {
        Run.of("begin = 1; write 1 0 9 = 1; deliver 1 0 = 2; crash = true; recover = 1; "
            + "gossip 0 0 1..3 = 1; deliver 2 0..3 = 2; point 1 = 2; point 2 = 1");
    }

    // Touching a page.

    private static void termsTheCacheIsEmptyAtFirst() {
        Run.of("cache 00000000");
    }

    private static void termsTheFourthPageDrivesNoneOutTheFifthDoes() {
        Run.of("begin = 1; read 1 0 = 0; read 1 4 = 0; read 1 8 = 0; cache 32100000; read 1 12 = 0; cache 43210000; "
            + "read 1 16 = 0; cache 04321000");
    }

    private static void termsAPageTouchedAgainIsTheLastOne() {
        Run.of("begin = 1; read 1 0 = 0; read 1 4 = 0; read 1 8 = 0; read 1 12 = 0; read 1 0 = 0; cache 14320000; "
            + "read 1 0 = 0; cache 14320000; read 1 16 = 0; cache 20431000");
    }

    private static void termsAPageInTheCacheIsTouchedThoughItIsAheadOfTheDurablePoint() {
        Run.of("begin = 1; write 1 0 5 = 1; read 1 4 = 0; read 1 0 = 5; cache 12000000; write 1 0 6 = 2");
    }

    private static void termsAPageInTheCacheIsTouchedThoughNoCopyIsLive() {
        Run.of("begin = 1; write 1 0 5 = 1; quorum 1; fault 0 0..5 2 = true; read 1 0 = 5; write 1 0 6 = 2");
    }

    private static void termsAPageWithoutChangesIsTakenInAtDurablePoint0() {
        Run.of("begin = 1; write 1 0 5 = 1; point 2 = 0; read 1 4 = 0; cache 21000000");
    }

    private static void termsALatestRecordAtTheDurablePointIsTakenIn() {
        Run.of("begin = 1; write 1 0 5 = 1; quorum 1; point 2 = 1; read 1 4,8,12,16 = 0; cache 04321000; "
            + "read 1 0 = 5; cache 10432000");
    }

    private static void termsALatestRecordBehindTheDurablePointStalls() {
        Run.of("begin = 1; write 1 0 5 = 1; quorum 1; read 1 4,8,12,16 = 0; abort 1 = 3; begin = 2; point 2 = 1; "
            + "read 2 0 = STALL; quorum 2; point 1 = 2; point 2 = 1; read 2 0 = STALL; cache 04321000; "
            + "quorum 3; point 2 = 3; read 2 0 = 0; cache 10432000");
    }

    private static void termsTheLatestRecordIsThatOfAnyKeyOfThePage() {
        for (int key = 0; key < 4; key++) {
            Run.of("begin = 1; write 1 " + key + " 5 = 1; deliver 1 0 = 2; crash = true; recover = 1; begin = 2; "
                + "read 2 0..3 = STALL; read 2 4 = 0");
        }
    }

    private static void termsFourPagesThatMayNotGoStall() {
        Run.of("begin = 1; write 1 0 5 = 1; write 1 4 5 = 2; write 1 8 5 = 3; write 1 12 5 = 4; read 1 16 = STALL; "
            + "cache 43210000; quorum 1; point 2 = 1; read 1 16 = 0; cache 04321000");
    }

    private static void termsThreePagesThatMayNotGoLeaveAPlace() {
        Run.of("begin = 1; write 1 0 5 = 1; write 1 4 5 = 2; write 1 8 5 = 3; write 1 16 5 = 4; cache 43201000");
    }

    private static void termsTheOneTouchedLongestAgoThatMayGoGoes() {
        Run.of("begin = 1; write 1 0 5 = 1; read 1 4 = 0; read 1 8 = 0; write 1 12 5 = 2; read 1 16 = 0; cache 40321000; "
            + "read 1 20 = 0; cache 40032100");
    }

    private static void termsNoLiveCopyIsAwayEvenAtDurablePoint0() {
        Run.of("begin = 1; fault 0 0..5 0 = true; read 1 0 = AWAY; read 1 4 = 0; fault 0 5 1 = true; read 1 0 = 0");
    }

    private static void termsAnyOneLiveCopyThatHoldsAllServes() {
        for (int c = 0; c < 6; c++) {
            Run run = Run.of("begin = 1; write 1 0 5 = 1; deliver 1 0..5 = 2; fault 0 0..5 0 = true; read 1 8 = AWAY");
            run.go("fault 0 " + c + " 1 = true; read 1 8 = 0; cache 20100000");
        }
    }

    private static void termsALiveCopyThatLacksADurableRecordIsAway() {
        Run.of("begin = 1; write 1 0 5 = 1; quorum 1; fault 0 0..3 0 = true; read 1 8 = AWAY; "
            + "deliver 1 5 = 2; read 1 8 = 0");
    }

    private static void termsALiveCopyThatLacksALaterRecordServes() {
        Run.of("begin = 1; write 1 0 5 = 1; quorum 1; write 1 0 6 = 2; deliver 2 0..2 = 2; fault 0 0..2 0 = true; "
            + "point 2 = 1; read 1 8 = 0");
    }

    private static void termsALiveCopyWithAGapAmongDurableRecordsIsAway() {
        Run.of("begin = 1; fill 1 0 2; quorum 1..2; deliver 2 4 = 2; fault 0 0..3 0 = true; fault 0 5 0 = true; "
            + "read 1 8 = AWAY; deliver 1 4 = 2; read 1 8 = 0");
    }

    private static void termsRecordsOfTheOtherGroupAreNotAskedFor() {
        Run.of("begin = 1; write 1 0 5 = 1; write 1 4 5 = 2; quorum 1..2; fault 0 0..3 0 = true; read 1 12 = 0; "
            + "read 1 8 = AWAY");
    }

    private static void termsAwayDrivesNoPageOut() {
        Run.of("begin = 1; read 1 4,12,20,28 = 0; fault 0 0..5 0 = true; read 1 0 = AWAY; cache 04030201");
    }

    private static void termsStallIsNamedAheadOfAwayWhenThePageIsAhead() {
        Run.of("begin = 1; write 1 0 5 = 1; deliver 1 0 = 2; crash = true; recover = 1; begin = 2; "
            + "fault 0 0..5 0 = true; read 2 0 = STALL; read 2 8 = AWAY");
    }

    private static void termsStallIsNamedAheadOfAwayWhenNoneMayGo() {
        Run.of("begin = 1; write 1 0 5 = 1; write 1 4 5 = 2; write 1 8 5 = 3; write 1 12 5 = 4; fault 0 0..5 0 = true; "
            + "read 1 16 = STALL");
    }

    // Pages of the same call.

    private static void termsThePageOfAIsNoRoomForThatOfB() {
        Run.of("begin = 1; write 1 4 9 = 1; write 1 8 9 = 2; write 1 12 9 = 3; read 1 0 = 0; cache 14320000; "
            + "shift 1 0 16 1 = STALL; cache 14320000");
    }

    private static void termsThePageOfBIsNoRoomForThatOfA() {
        Run.of("begin = 1; write 1 4 9 = 1; write 1 8 9 = 2; write 1 12 9 = 3; read 1 0 = 0; cache 14320000; "
            + "shift 1 16 0 1 = STALL; cache 14320000");
    }

    private static void termsAnotherPageGoesThoughThatOfBIsOlder() {
        Run.of("begin = 1; read 1 0,4,8,12 = 0; cache 43210000; shift 1 16 0 1 = SHORT; cache 10432000");
    }

    private static void termsAnotherPageGoesAndThatOfAStays() {
        Run.of("begin = 1; read 1 0 = 0; write 1 4 9 = 1; read 1 8 = 0; write 1 12 9 = 2; shift 1 0 16 1 = SHORT; "
            + "cache 24031000");
    }

    private static void termsAPageJustTakenInForAIsNoRoomForThatOfB() {
        Run.of("begin = 1; write 1 4 9 = 1; write 1 8 9 = 2; write 1 12 9 = 3; shift 1 0 16 1 = STALL; cache 14320000");
    }

    private static void termsTwoKeysOfOnePageNeedOnePlace() {
        Run.of("begin = 1; write 1 4 9 = 1; write 1 8 9 = 2; write 1 12 9 = 3; read 1 16 = 0; shift 1 0 3 1 = SHORT; "
            + "cache 14320000");
    }

    private static void termsInAnotherCallThePageMayGo() {
        Run.of("begin = 1; write 1 4 9 = 1; write 1 8 9 = 2; write 1 12 9 = 3; read 1 0 = 0; shift 1 0 16 1 = STALL; "
            + "read 1 16 = 0; cache 04321000");
    }

    // Keys that are held.

    private static void termsAKeyIsFreeAgainAfterACommit() {
        Run.of("begin = 1; begin = 2; read 1 0 = 0; read 2 0 = LOCKED; commit 1 = 1; read 2 0 = 0; write 2 0 1 = 2");
    }

    private static void termsAKeyIsFreeAgainAfterAnAbort() {
        Run.of("begin = 1; begin = 2; write 1 0 7 = 1; read 2 0 = LOCKED; abort 1 = 3; read 2 0 = 0; write 2 0 1 = 4");
    }

    private static void termsAKeyIsFreeAgainAfterARecovery() {
        Run.of("begin = 1; read 1 0 = 0; crash = true; recover = 0; begin = 2; read 2 0 = 0");
    }

    private static void termsTheEndOfOneTransactionFreesNoKeysOfOthers() {
        Run.of("begin = 1; begin = 2; begin = 3; read 1 0 = 0; read 2 1 = 0; commit 1 = 1; read 3 0 = 0; read 3 1 = LOCKED");
    }

    private static void termsOnesOwnKeysAreNotLocked() {
        Run.of("begin = 1; read 1 0 = 0; read 1 0 = 0; write 1 0 5 = 1; read 1 0 = 5; shift 1 0 1 5 = 3; shift 1 1 0 5 = 5");
    }

    private static void termsKeysOfTheSamePageAreHeldEachForItself() {
        Run.of("begin = 1; begin = 2; write 1 0 5 = 1; write 2 1 5 = 2; read 2 0 = LOCKED; read 1 1 = LOCKED; read 2 3 = 0");
    }

    // Views and lows.

    private static void termsAViewIs0AtFirst() {
        Run.of("begin = 1; write 1 0 5 = 1; commit 1 = 2; quorum 1..2; view 0,1 0 = 0");
    }

    private static void termsAnEndAtTheViewIsThere() {
        Run.of("begin = 1; write 1 0 5 = 1; commit 1 = 2; quorum 1..2; follow 0 = 2; view 0 0 = 5");
    }

    private static void termsAnEndBehindTheViewIsNotThere() {
        Run.of("begin = 1; write 1 0 5 = 1; commit 1 = 2; quorum 1; follow 0 = 1; quorum 2; view 0 0 = 0");
    }

    private static void termsAChangeAtTheViewWithoutAnEndIsNotSeen() {
        Run.of("begin = 1; write 1 0 5 = 1; commit 1 = 2; begin = 2; write 2 0 6 = 3; quorum 1..3; follow 0 = 3; view 0 0 = 5");
    }

    private static void termsAChangeBehindTheViewIsNotSeen() {
        Run.of("begin = 1; write 1 0 5 = 1; commit 1 = 2; quorum 1..2; follow 0 = 2; begin = 2; write 2 0 6 = 3; commit 2 = 4; "
            + "quorum 3..4; view 0 0 = 5; follow 1 = 4; view 1 0 = 6");
    }

    private static void termsAnEndThatAbortsIsAnEndToo() {
        Run.of("begin = 1; write 1 0 5 = 1; commit 1 = 2; begin = 2; write 2 0 6 = 3; abort 2 = 5; quorum 1..5; "
            + "follow 0 = 5; view 0 0 = 5");
    }

    private static void termsTheLowIsTheViewWhenAllHaveEnded() {
        Run.of("begin = 1; write 1 0 5 = 1; begin = 2; commit 1 = 2; commit 2 = 3; quorum 1..3; follow 0,1 = 3; "
            + "collect 0 0 = 2; copy 0 0 2 = 0");
    }

    private static void termsTheLowIs0WhenRecord1HasNoEnd() {
        Run.of("begin = 1; begin = 2; write 1 0 5 = 1; write 2 8 5 = 2; commit 2 = 3; quorum 1..3; follow 0,1 = 3; collect 0 0 = 0");
    }

    private static void termsTheLowIs1LessWhenTheRecordAtTheViewHasNoEnd() {
        Run.of("begin = 1; begin = 2; commit 2 = 1; write 1 0 5 = 2; quorum 1..2; follow 0,1 = 2; collect 0 0 = 1; copy 0 0 2 = 1");
    }

    private static void termsTheLowCountsAnEndAtTheView() {
        Run.of("begin = 1; begin = 2; write 2 0 5 = 1; commit 2 = 2; quorum 1..2; follow 0,1 = 2; collect 0 0 = 2");
    }

    private static void termsTheLowCountsAnEndThatAborts() {
        Run.of("begin = 1; begin = 2; write 2 0 5 = 1; abort 2 = 3; quorum 1..3; follow 0,1 = 3; collect 0 0 = 3; copy 0 0 2 = 0");
    }

    private static void termsTheLowDoesNotCountAnEndBehindTheView() {
        Run.of("begin = 1; begin = 2; write 2 0 5 = 1; commit 2 = 2; quorum 1; follow 0,1 = 1; quorum 2; collect 0 0 = 0; "
            + "follow 0,1 = 2; collect 0 0 = 2");
    }

    private static void termsTheLowGoesByTheFirstOfSeveralWithoutAnEnd() {
        Run.of("begin = 1; begin = 2; begin = 3; begin = 4; commit 4 = 1; write 3 0 5 = 2; write 1 1 5 = 3; write 3 0 6 = 4; "
            + "quorum 1..4; follow 0,1 = 4; collect 0 0 = 1; copy 0 0 2 = 3");
    }
}
