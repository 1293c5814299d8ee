/** The boundary cases of promises 12, 17 and 18, one test for each. */
public final class CountsBoundariesTest {
    public static void main(String[] args) {
        Check.runAll(CountsBoundariesTest.class);
    }

    private static void promise12_counted_noneForAWhatTooSmall() {
        EarlyCut x = Setup.filesAndSteps(0, 1);
        x.build(1);
        for (int what : Setup.TOO_SMALL) {
            Check.due("counted(" + what + ")", x.counted(what), -1);
        }
    }

    private static void promise12_counted_noneForAWhatTooLarge() {
        EarlyCut x = Setup.filesAndSteps(0, 1);
        x.build(1);
        for (int what : Setup.wrongNumbers(5)) {
            Check.due("counted(" + what + ")", x.counted(what), -1);
        }
        Check.due("the last what", x.counted(4), 1);
    }

    private static void promise12_counted_0BeforeAnyBuild() {
        EarlyCut x = Setup.filesAndSteps(0, 16);
        Check.dueCounts("before", x, 0, 0, 0, 0, 0);
    }

    private static void promise12_counted_isOfTheLatestBuildEvenOfNone() {
        EarlyCut x = Setup.filesAndSteps(0, 3);
        x.build(-1);
        Check.dueCounts("three new ones", x, 0, 0, 0, 0, 3);
        x.build(0);
        Check.dueCounts("none", x, 0, 0, 0, 0, 0);
    }

    private static void promise12_counted_staysTillTheNextBuild() {
        EarlyCut x = Setup.oneFileOneStep(-1L, 0L);
        x.build(1);
        x.set(0, false, 0L);
        x.force(0);
        x.step(0L, 0L);
        Check.dueCounts("after it", x, 0, 0, 0, 0, 1);
    }

    private static void promise12_counted_savedIs0WhenAllAreNew() {
        EarlyCut x = Setup.chain(16);
        x.build(-1);
        Check.due("saved", x.counted(0), 0);
    }

    private static void promise12_counted_savedAreAtMost16() {
        EarlyCut x = Setup.chain(16);
        Setup.buildWith(x, 1L);
        Setup.buildWith(x, 2L);
        Setup.buildWith(x, 1L);
        Check.dueCounts("all restored", x, 16, 0, 0, 0, 16);
    }

    private static void promise12_counted_savedAreMarkedOnesThatAreClean() {
        EarlyCut x = Setup.chain(16);
        x.build(-1);
        x.force(0);
        x.build(-1);
        Check.dueCounts("one forced, its users clean", x, 15, 1, 0, 0, 16);
    }

    private static void promise12_counted_savedAreNotThoseCleanButNotMarked() {
        EarlyCut x = Setup.chain(16);
        x.build(-1);
        x.build(-1);
        Check.dueCounts("all clean", x, 0, 0, 0, 0, 0);
    }

    /** STEP 0's FACE is always 0, so that STEP 1, which reads it, fails by the same RECORD. */
    private static EarlyCut failingUserOfAFace() {
        EarlyCut x = new EarlyCut();
        x.file(1L);
        x.step(0L, 0L);
        x.step(-1L, 17L);
        x.readsFile(0, 0);
        x.readsPart(1, 0, 0);
        x.build(-1);
        Check.dueStates("at first", x, "23");
        return x;
    }

    private static void promise12_counted_savedAreMarkedOnesStillByTheFirstRecord() {
        EarlyCut x = failingUserOfAFace();
        Setup.buildWith(x, 2L);
        Check.dueStates("redone, still", x, "24");
        Check.dueCounts("redone, still", x, 1, 0, 1, 0, 2);
    }

    private static void promise12_counted_savedAreNotThoseStillButNotMarked() {
        EarlyCut x = failingUserOfAFace();
        x.build(-1);
        Check.dueStates("clean, still", x, "14");
        Check.dueCounts("clean, still", x, 0, 0, 0, 0, 0);
    }

    private static void promise12_counted_savedAreMarkedOnesStillByAnotherRecord() {
        EarlyCut x = Setup.oneFileOneStep(-1L, 4L);
        Setup.buildWith(x, 1L);
        Setup.buildWith(x, 2L);
        Setup.buildWith(x, 1L);
        Check.due("state", x.state(0), 4);
        Check.dueCounts("still", x, 1, 0, 0, 0, 1);
    }

    /** A PART that another BUILD changed and changed back marks nobody: RESTORED, but not SAVED. */
    private static void promise12_counted_savedAreNotThoseRestoredButNotMarked() {
        EarlyCut x = Setup.chain(2);
        Setup.buildWith(x, 1L);
        Setup.buildWith(x, 2L);
        x.set(0, true, 1L);
        x.build(1);
        x.build(2);
        Check.dueStates("clean, restored", x, "16");
        Check.dueCounts("clean, restored", x, 0, 0, 0, 0, 0);
    }

    private static void promise12_counted_savedAreNotThoseBlocked() {
        EarlyCut x = Setup.chain(2);
        x.build(-1);
        Setup.buildWithout(x);
        Check.dueCounts("failed, blocked", x, 0, 0, 0, 1, 2);
    }

    private static void promise12_counted_cutAreAtMost16() {
        EarlyCut x = Setup.sameOutputForAll(16);
        Setup.buildSameOutput(x, 1L);
        Check.dueCounts("new ones are not cut", x, 0, 0, 0, 0, 16);
        Setup.buildSameOutput(x, 2L);
        Check.dueCounts("all are cut", x, 0, 16, 0, 0, 16);
    }

    private static void promise12_counted_cutIsOneRestoredToo() {
        EarlyCut x = Setup.sameOutputForAll(1);
        Setup.buildSameOutput(x, 1L);
        Setup.buildSameOutput(x, 2L);
        Setup.buildSameOutput(x, 1L);
        Check.due("state", x.state(0), 6);
        Check.dueCounts("restored", x, 1, 1, 0, 0, 1);
    }

    private static void promise12_counted_cutIsNotOneThatIsClean() {
        EarlyCut x = Setup.sameOutputForAll(1);
        Setup.buildSameOutput(x, 1L);
        Setup.buildSameOutput(x, 1L);
        Check.dueCounts("clean", x, 0, 0, 0, 0, 0);
    }

    private static void promise12_counted_cutIsNotOneThatFailsAgain() {
        EarlyCut x = Setup.oneFileOneStep(-1L, 1L);
        x.build(1);
        x.force(0);
        x.build(1);
        Check.dueCounts("the same failure", x, 0, 0, 0, 0, 1);
    }

    private static void promise12_counted_cutOrHalfIsNoneAfterAFailure() {
        EarlyCut x = Setup.oneFileOneStep(0L, 4L);
        Setup.buildWith(x, 1L);
        Setup.buildWith(x, 2L);
        Check.dueCounts("redone after it failed", x, 0, 0, 0, 0, 1);
        Setup.buildWith(x, 1L);
        Setup.buildWith(x, 2L);
        Check.due("state", x.state(0), 6);
        Check.dueCounts("restored after it failed still", x, 1, 0, 0, 0, 1);
    }

    private static void promise12_counted_cutOrHalfIsNoneThatFailsAfterAnOutput() {
        EarlyCut x = Setup.oneFileOneStep(0L, 4L);
        Setup.buildWith(x, 2L);
        Setup.buildWith(x, 1L);
        Check.due("state", x.state(0), 3);
        Check.dueCounts("failed", x, 0, 0, 0, 0, 1);
        Setup.buildWith(x, 2L);
        Setup.buildWith(x, 1L);
        Check.due("state", x.state(0), 4);
        Check.dueCounts("still", x, 1, 0, 0, 0, 1);
    }

    /** The OUTPUTS of the second RECORD and of the new one are the same, that of the first is another. */
    private static void promise12_counted_cutIsToldByTheRecordThatWasFirst() {
        EarlyCut x = Setup.sameOutputForAll(1);
        Setup.buildSameOutput(x, 1L);
        x.set(1, true, 7L);
        x.build(1);
        Setup.buildSameOutput(x, 2L);
        Check.dueCounts("redone", x, 0, 0, 0, 0, 1);
    }

    private static void promise12_counted_cutIsNoneOnceItReadsMore() {
        EarlyCut x = Setup.filesAndSteps(0, 1);
        x.build(1);
        x.file(-31L * 17L + 17L);
        x.readsFile(0, 0);
        x.build(1);
        Check.due("the same body", x.output(0, 1), 17L);
        Check.dueCounts("but no record before", x, 0, 0, 0, 0, 1);
    }

    private static void promise12_counted_halfAreAtMost16() {
        EarlyCut x = new EarlyCut();
        x.file(1L);
        for (int n = 0; n < 16; n++) {
            x.step(0L, 0L);
            x.readsFile(n, 0);
        }
        Setup.buildWith(x, 1L);
        Setup.buildWith(x, 2L);
        Check.dueCounts("all are half", x, 0, 0, 16, 0, 16);
    }

    private static void promise12_counted_halfIsOneRestoredToo() {
        EarlyCut x = Setup.oneFileOneStep(0L, 0L);
        Setup.buildWith(x, 1L);
        Setup.buildWith(x, 2L);
        Setup.buildWith(x, 1L);
        Check.dueCounts("restored", x, 1, 0, 1, 0, 1);
    }

    private static void promise12_counted_halfIsNoneWhoseFaceIsAnother() {
        EarlyCut x = Setup.oneFileOneStep(1L, 0L);
        Setup.buildWith(x, 1L);
        Setup.buildWith(x, 2L);
        Check.dueCounts("another face", x, 0, 0, 0, 0, 1);
        Setup.buildWith(x, 4L);
        Check.dueCounts("the same face", x, 0, 0, 1, 0, 1);
    }

    private static void promise12_counted_blockedAreAtMost15() {
        EarlyCut x = Setup.chain(16);
        Setup.buildWithout(x);
        Check.dueCounts("one failed", x, 0, 0, 0, 15, 16);
    }

    private static void promise12_counted_markedAreThoseTakenAlone() {
        EarlyCut x = Setup.filesAndSteps(0, 16);
        x.build(1 << 15);
        Check.dueCounts("one of 16 new ones", x, 0, 0, 0, 0, 1);
    }

    private static void promise12_counted_markedIsOneForced() {
        EarlyCut x = Setup.filesAndSteps(0, 2);
        x.build(-1);
        x.force(1);
        x.build(-1);
        Check.due("marked", x.counted(4), 1);
    }

    private static void promise12_counted_markedIsOneWhoseFileIsOther() {
        EarlyCut x = Setup.oneFileOneStep(-1L, 0L);
        Setup.buildWith(x, 0L);
        Setup.buildWith(x, 1L);
        Check.due("another content", x.counted(4), 1);
        Setup.buildWith(x, 0L);
        Check.due("as by the second record", x.counted(4), 1);
        Setup.buildWithout(x);
        Check.due("not there", x.counted(4), 1);
        Setup.buildWithout(x);
        Check.due("not there, as before", x.counted(4), 0);
    }

    private static void promise12_counted_markedIsOneWhoseSixthReadIsOther() {
        EarlyCut x = Setup.filesAndSteps(6, 1);
        for (int n = 0; n < 6; n++) {
            x.readsFile(0, n);
        }
        x.build(1);
        x.set(5, true, 9L);
        x.build(1);
        Check.due("marked", x.counted(4), 1);
    }

    private static void promise12_counted_markedIsOneThatReadsAPartOfAMarkedOneThatIsBlocked() {
        EarlyCut x = Setup.chain(3);
        x.build(-1);
        Setup.buildWithout(x);
        Check.dueStates("after it", x, "355");
        Check.dueCounts("all are marked", x, 0, 0, 0, 2, 3);
        x.build(-1);
        Check.dueStates("after it", x, "455");
        Check.dueCounts("none is marked", x, 0, 0, 0, 2, 0);
    }

    private static void promise12_counted_markedIsNoneForAPartThatIsOtherByAnEarlierBuild() {
        EarlyCut x = Setup.chain(2);
        x.build(-1);
        x.set(0, true, 2L);
        x.build(1);
        x.build(2);
        Check.dueStates("clean, redone", x, "12");
        Check.dueCounts("none is marked", x, 0, 0, 0, 0, 0);
    }

    private static void promise17_total_noneForACauseTooSmall() {
        EarlyCut x = Setup.filesAndSteps(0, 1);
        x.build(1);
        for (int cause : Setup.TOO_SMALL) {
            Check.due("total(" + cause + ")", x.total(cause), -1);
        }
    }

    private static void promise17_total_noneForACauseTooLarge() {
        EarlyCut x = Setup.filesAndSteps(0, 1);
        x.build(1);
        for (int cause : Setup.wrongNumbers(4)) {
            Check.due("total(" + cause + ")", x.total(cause), -1);
        }
        Check.due("the last cause", x.total(3), 0);
    }

    private static void promise17_total_0BeforeAnyBuild() {
        EarlyCut x = Setup.filesAndSteps(0, 16);
        x.force(0);
        dueTotals("before", x, 0, 0, 0, 0);
    }

    private static void promise17_total_isOfAllBuilds() {
        EarlyCut x = Setup.chain(3);
        x.build(-1);
        dueTotals("new", x, 3, 0, 0, 0);
        x.force(2);
        x.build(-1);
        dueTotals("forced", x, 3, 1, 0, 0);
        Setup.buildWith(x, 2L);
        dueTotals("a file, and parts", x, 3, 1, 1, 2);
        x.build(0);
        dueTotals("a build of none", x, 3, 1, 1, 2);
    }

    private static void promise17_total_countsThoseThatFailed() {
        EarlyCut x = Setup.oneFileOneStep(-1L, 1L);
        x.build(1);
        x.force(0);
        x.build(1);
        Setup.buildWith(x, 2L);
        dueTotals("failed thrice", x, 1, 1, 1, 0);
    }

    private static void promise17_total_countsNoneCleanRestoredStillOrBlocked() {
        EarlyCut x = Setup.chain(2);
        Setup.buildWith(x, 1L);
        Setup.buildWith(x, 2L);
        Setup.buildWithout(x);
        dueTotals("before", x, 2, 0, 2, 1);
        Setup.buildWithout(x);
        Check.dueStates("still, blocked", x, "45");
        Setup.buildWith(x, 1L);
        Check.dueStates("restored", x, "66");
        Setup.buildWith(x, 1L);
        Check.dueStates("clean", x, "11");
        dueTotals("after", x, 2, 0, 2, 1);
    }

    private static void promise17_total_staysWhenRecordsGo() {
        EarlyCut x = Setup.filesAndSteps(1, 1);
        x.build(1);
        x.readsFile(0, 0);
        dueTotals("records went", x, 1, 0, 0, 0);
        x.build(1);
        dueTotals("new once more", x, 2, 0, 0, 0);
    }

    private static void promise18_share_throwsForANewObject() {
        EarlyCut x = new EarlyCut();
        Check.dueThrow("share()", () -> x.share(), ArithmeticException.class);
    }

    private static void promise18_share_throwsWhileNoneWasDone() {
        EarlyCut x = Setup.filesAndSteps(1, 16);
        x.force(0);
        Check.dueThrow("no build", () -> x.share(), ArithmeticException.class);
        x.build(0);
        Check.dueThrow("a build of none", () -> x.share(), ArithmeticException.class);
        x.build(0xFFFF0000);
        Check.dueThrow("a build of no such steps", () -> x.share(), ArithmeticException.class);
        x.build(1);
        Check.due("one was done", x.share(), 0);
    }

    private static void promise18_share_throwsNoMoreThoughTheLatestBuildDidNothing() {
        EarlyCut x = Setup.filesAndSteps(0, 1);
        x.build(1);
        x.build(0);
        Check.due("share()", x.share(), 0);
    }

    private static void promise18_share_isRoundedDown() {
        EarlyCut x = Setup.filesAndSteps(0, 2);
        x.build(1);
        x.build(2);
        x.force(0);
        x.build(1);
        Check.due("one of three", x.share(), 333);
        x.force(0);
        x.build(1);
        Check.due("two of four", x.share(), 500);
        EarlyCut y = Setup.filesAndSteps(0, 1);
        y.build(1);
        y.force(0);
        y.build(1);
        y.force(0);
        y.build(1);
        Check.due("two of three", y.share(), 666);
    }

    private static void promise18_share_oneOfManyIsRoundedTo0() {
        EarlyCut x = Setup.chain(16);
        x.force(0);
        x.build(-1);
        for (int n = 2; n <= 63; n++) {
            Setup.buildWith(x, n);
        }
        x.force(15);
        x.build(-1);
        Check.due("one of 1009", x.share(), 0);
    }

    private static void promise18_share_thoseRestoredAreNotCounted() {
        EarlyCut x = Setup.sameOutputForAll(1);
        Setup.buildSameOutput(x, 1L);
        Setup.buildSameOutput(x, 2L);
        Check.due("one of two", x.share(), 500);
        for (int n = 0; n < 5; n++) {
            Setup.buildSameOutput(x, 1L + n % 2);
            Check.due("restored", x.state(0), 6);
            Check.due("cut", x.counted(1), 1);
        }
        Check.due("one of two yet", x.share(), 500);
    }

    private static void promise18_share_thoseThatFailedWereDone() {
        EarlyCut x = Setup.oneFileOneStep(-1L, 4L);
        Setup.buildWith(x, 2L);
        x.force(0);
        x.build(1);
        Check.due("one of two", x.share(), 500);
        Setup.buildWith(x, 1L);
        Check.due("one of three", x.share(), 333);
        Setup.buildWith(x, 1L);
        Check.due("still isn't done", x.share(), 333);
    }

    private static void promise18_share_halfIsNotCut() {
        EarlyCut x = Setup.oneFileOneStep(0L, 0L);
        Setup.buildWith(x, 1L);
        Setup.buildWith(x, 2L);
        Check.due("half", x.counted(2), 1);
        Check.due("share", x.share(), 0);
    }

    private static void promise18_share_isOfAllBuilds() {
        EarlyCut x = Setup.sameOutputForAll(16);
        Setup.buildSameOutput(x, 1L);
        Check.due("none of 16", x.share(), 0);
        Setup.buildSameOutput(x, 2L);
        Check.due("16 of 32", x.share(), 500);
        Setup.buildSameOutput(x, 3L);
        Check.due("32 of 48", x.share(), 666);
    }

    private static void dueTotals(String when, EarlyCut x, int... want) {
        for (int cause = 0; cause < want.length; cause++) {
            Check.due(when + ": total(" + cause + ")", x.total(cause), want[cause]);
        }
    }
}
