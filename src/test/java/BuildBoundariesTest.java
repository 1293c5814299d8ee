/** The boundary cases of promises 9 to 11, one test for each. */
public final class BuildBoundariesTest {
    public static void main(String[] args) {
        Check.runAll(BuildBoundariesTest.class);
    }

    private static void promise09_build_noBitsTakeNone() {
        EarlyCut x = Setup.filesAndSteps(0, 16);
        Check.due("build(0)", x.build(0), 0);
        Check.dueStates("after it", x, "0000000000000000");
        Check.dueCounts("after it", x, 0, 0, 0, 0, 0);
    }

    private static void promise09_build_allBitsTakeAll16() {
        EarlyCut x = Setup.filesAndSteps(0, 16);
        Check.due("build(-1)", x.build(-1), 16);
        Check.dueStates("after it", x, "2222222222222222");
    }

    private static void promise09_build_bitsPastTheLastStepAreNone() {
        EarlyCut x = Setup.filesAndSteps(0, 3);
        Check.due("bit 3", x.build(1 << 3), 0);
        Check.due("bits 3 to 31", x.build(-1 << 3), 0);
        Check.dueStates("after it", x, "000");
        Check.due("bits 2 and 3", x.build(3 << 2), 1);
        Check.dueStates("after it", x, "002");
    }

    private static void promise09_build_bits16To31AreNone() {
        EarlyCut x = Setup.filesAndSteps(0, 16);
        for (int bit = 16; bit < 32; bit++) {
            Check.due("bit " + bit, x.build(1 << bit), 0);
        }
        Check.due("all of them", x.build(0xFFFF0000), 0);
        Check.dueStates("after it", x, "0000000000000000");
    }

    private static void promise09_build_eachBitIsItsStepAlone() {
        EarlyCut x = Setup.filesAndSteps(0, 16);
        for (int n = 0; n < 16; n++) {
            Check.due("bit " + n, x.build(1 << n), 1);
            Check.due("state of its step", x.state(n), 2);
            Check.due("records of its step", x.records(n), 1);
            Check.due("records of the next", x.records(n + 1), 0);
        }
    }

    private static void promise09_build_takesWhatIsReadThrough15Others() {
        EarlyCut x = Setup.chain(16);
        Check.due("build of the last", x.build(1 << 15), 16);
        Check.dueStates("after it", x, "2222222222222222");
        Check.due("build of the first", x.build(1), 0);
        Check.dueStates("after it", x, "1000000000000000");
    }

    private static void promise09_build_takesNoneThatReadsTheStep() {
        EarlyCut x = Setup.chain(3);
        x.build(-1);
        x.set(0, true, 2L);
        Check.due("build of the middle", x.build(2), 2);
        Check.dueStates("after it", x, "220");
        Check.due("what the last one read before", x.record(2, 0, 0), 527L + 528L);
    }

    private static void promise09_build_aStepThatIsReadTwiceIsDoneOnce() {
        EarlyCut x = Setup.filesAndSteps(0, 3);
        x.readsPart(1, 0, 0);
        x.readsPart(1, 0, 1);
        x.readsPart(2, 0, 1);
        x.readsPart(2, 1, 1);
        Check.due("build", x.build(6), 3);
        Check.due("total", x.total(0), 3);
    }

    private static void promise09_build_thoseThatFailedWereDoneToo() {
        EarlyCut x = Setup.oneFileOneStep(-1L, 1L);
        x.step(-1L, 0L);
        Check.due("one failed, one redone", x.build(3), 2);
    }

    private static void promise09_build_cleanStillRestoredAndBlockedWereNotDone() {
        EarlyCut x = cleanStillRestoredBlocked();
        Check.dueStates("after it", x, "1465");
        Check.due("build", x.build(-1), 0);
    }

    /** STEP 0 reads nothing, STEP 1 fails always, STEP 2 reads FILE 0, STEP 3 a PART of STEP 1. */
    private static EarlyCut cleanStillRestoredBlocked() {
        EarlyCut x = new EarlyCut();
        x.file(1L);
        x.step(-1L, 0L);
        x.step(-1L, 1L);
        x.step(-1L, 0L);
        x.step(-1L, 0L);
        x.readsFile(2, 0);
        x.readsPart(3, 1, 0);
        x.build(-1);
        Setup.buildWith(x, 2L);
        Check.due("build that does nothing", Setup.buildWith(x, 1L), 0);
        return x;
    }

    private static void promise10_state_0BeforeAnyBuild() {
        EarlyCut x = Setup.filesAndSteps(0, 16);
        x.force(3);
        Check.dueStates("before", x, "0000000000000000");
    }

    private static void promise10_state_0IfItWasntTaken() {
        EarlyCut x = Setup.filesAndSteps(0, 3);
        x.build(-1);
        x.build(2);
        Check.dueStates("the middle alone", x, "010");
    }

    private static void promise10_state_0ForANumberTooSmall() {
        EarlyCut x = Setup.filesAndSteps(0, 16);
        x.build(-1);
        for (int number : Setup.TOO_SMALL) {
            Check.due("state(" + number + ")", x.state(number), 0);
        }
    }

    private static void promise10_state_0ForANumberTooLarge() {
        EarlyCut x = Setup.filesAndSteps(0, 16);
        x.build(-1);
        for (int number : Setup.TOO_LARGE) {
            Check.due("state(" + number + ")", x.state(number), 0);
        }
    }

    private static void promise10_state_0ForAStepMadeAfterTheBuild() {
        EarlyCut x = Setup.filesAndSteps(0, 1);
        x.build(-1);
        Check.due("just past the last", x.state(1), 0);
        x.step(0L, 0L);
        Check.due("made since", x.state(1), 0);
    }

    private static void promise10_state_isOfTheLatestBuildEvenOfNone() {
        EarlyCut x = Setup.filesAndSteps(0, 2);
        x.build(-1);
        Check.dueStates("all", x, "22");
        x.build(0);
        Check.dueStates("none", x, "00");
    }

    private static void promise10_state_staysTillTheNextBuild() {
        EarlyCut x = Setup.oneFileOneStep(-1L, 0L);
        x.build(1);
        x.set(0, false, 0L);
        x.force(0);
        x.file(5L);
        x.readsFile(0, 1);
        Check.due("state", x.state(0), 2);
        Check.due("cause", x.cause(0), 0);
    }

    private static void promise10_state_cleanByTheFirstRecordRestoredByTheLast() {
        EarlyCut x = Setup.oneFileOneStep(-1L, 0L);
        Setup.buildWith(x, 1L);
        Setup.buildWith(x, 2L);
        Setup.buildWith(x, 3L);
        Setup.buildWith(x, 3L);
        Check.due("the first", x.state(0), 1);
        Setup.buildWith(x, 1L);
        Check.due("the third", x.state(0), 6);
        Setup.buildWith(x, 1L);
        Check.due("then the first", x.state(0), 1);
        Setup.buildWith(x, 3L);
        Check.due("the second", x.state(0), 6);
    }

    private static void promise10_state_stillByTheFirstRecordAndByTheLast() {
        EarlyCut x = Setup.oneFileOneStep(-1L, 1L);
        Setup.buildWith(x, 1L);
        Check.due("failed", x.state(0), 3);
        Setup.buildWith(x, 1L);
        Check.due("the first", x.state(0), 4);
        Setup.buildWith(x, 2L);
        Setup.buildWith(x, 3L);
        Check.due("failed once more", x.state(0), 3);
        Setup.buildWith(x, 1L);
        Check.due("the third", x.state(0), 4);
    }

    private static void promise10_state_forcedIsDoneThoughARecordFits() {
        EarlyCut x = Setup.oneFileOneStep(-1L, 0L);
        Setup.buildWith(x, 1L);
        x.force(0);
        Setup.buildWith(x, 1L);
        Check.due("the first", x.state(0), 2);
        Setup.buildWith(x, 2L);
        x.force(0);
        Setup.buildWith(x, 1L);
        Check.due("another", x.state(0), 2);
    }

    private static void promise10_state_forcedFailsAnewThoughARecordFits() {
        EarlyCut x = Setup.oneFileOneStep(-1L, 1L);
        x.build(1);
        x.force(0);
        x.build(1);
        Check.due("state", x.state(0), 3);
    }

    private static void promise10_state_blockedByOneThatFailed() {
        EarlyCut x = Setup.chain(2);
        Setup.buildWithout(x);
        Check.dueStates("failed", x, "35");
    }

    private static void promise10_state_blockedByOneThatFailedStill() {
        EarlyCut x = Setup.chain(2);
        Setup.buildWithout(x);
        x.build(-1);
        Check.dueStates("still", x, "45");
    }

    private static void promise10_state_blockedThrough15Others() {
        EarlyCut x = Setup.chain(16);
        Setup.buildWithout(x);
        Check.dueStates("after it", x, "3555555555555555");
    }

    private static void promise10_state_blockedByTheSixthReadAlone() {
        EarlyCut x = Setup.filesAndSteps(5, 2);
        x.file(0L);
        x.set(5, false, 0L);
        x.readsFile(0, 5);
        for (int n = 0; n < 5; n++) {
            x.readsFile(1, n);
        }
        x.readsPart(1, 0, 1);
        x.build(-1);
        Check.dueStates("after it", x, "35");
    }

    private static void promise10_state_blockedThoughItIsForcedNewOrAFileIsntThere() {
        EarlyCut x = Setup.chain(3);
        x.file(0L);
        x.set(1, false, 0L);
        x.readsFile(2, 1);
        x.force(1);
        Setup.buildWithout(x);
        Check.dueStates("after it", x, "355");
        Check.due("no record of it", x.records(2), 0);
    }

    private static void promise10_state_notBlockedByAFailureOfAnEarlierBuild() {
        EarlyCut x = Setup.chain(2);
        Setup.buildWithout(x);
        Setup.buildWith(x, 1L);
        Check.dueStates("after it", x, "22");
    }

    private static void promise10_state_notBlockedByAFailureOfAStepThatItDoesntRead() {
        EarlyCut x = Setup.oneFileOneStep(-1L, 1L);
        x.step(-1L, 0L);
        x.build(-1);
        Check.dueStates("after it", x, "32");
    }

    private static void promise10_state_blockedLeavesItsRecordsAsTheyWere() {
        EarlyCut x = Setup.chain(2);
        Setup.buildWith(x, 1L);
        Setup.buildWith(x, 2L);
        long first = x.record(1, 0, 0);
        long second = x.record(1, 1, 0);
        long body = x.output(1, 1);
        Setup.buildWithout(x);
        Check.due("blocked", x.state(1), 5);
        Check.due("records", x.records(1), 2);
        Check.due("the first", x.record(1, 0, 0), first);
        Check.due("the second", x.record(1, 1, 0), second);
        Check.due("the output", x.output(1, 1), body);
    }

    private static void promise11_cause_noneBeforeAnyBuild() {
        EarlyCut x = Setup.filesAndSteps(0, 2);
        x.force(0);
        Check.dueCauses("before", x, "--");
    }

    private static void promise11_cause_noneForANumberTooSmall() {
        EarlyCut x = Setup.filesAndSteps(0, 16);
        x.build(-1);
        for (int number : Setup.TOO_SMALL) {
            Check.due("cause(" + number + ")", x.cause(number), -1);
        }
    }

    private static void promise11_cause_noneForANumberTooLarge() {
        EarlyCut x = Setup.filesAndSteps(0, 16);
        x.build(-1);
        for (int number : Setup.TOO_LARGE) {
            Check.due("cause(" + number + ")", x.cause(number), -1);
        }
    }

    private static void promise11_cause_noneForAStepMadeAfterTheBuild() {
        EarlyCut x = Setup.filesAndSteps(0, 1);
        x.build(-1);
        Check.due("just past the last", x.cause(1), -1);
        x.step(0L, 0L);
        Check.due("made since", x.cause(1), -1);
    }

    private static void promise11_cause_noneIfItWasntTakenByTheLatestBuild() {
        EarlyCut x = Setup.filesAndSteps(0, 2);
        x.build(-1);
        Check.dueCauses("both", x, "00");
        x.build(0);
        Check.dueCauses("none", x, "--");
    }

    private static void promise11_cause_noneForCleanStillRestoredAndBlocked() {
        EarlyCut x = cleanStillRestoredBlocked();
        Check.dueStates("after it", x, "1465");
        Check.dueCauses("after it", x, "----");
    }

    private static void promise11_cause_oneThatFailedHasOne() {
        EarlyCut x = Setup.oneFileOneStep(-1L, 1L);
        x.build(1);
        Check.due("new", x.cause(0), 0);
        Setup.buildWith(x, 2L);
        Check.due("a file", x.cause(0), 2);
        x.force(0);
        x.build(1);
        Check.due("forced", x.cause(0), 1);
    }

    private static void promise11_cause_newBeforeForced() {
        EarlyCut x = Setup.oneFileOneStep(-1L, 0L);
        x.force(0);
        x.build(1);
        Check.due("cause", x.cause(0), 0);
    }

    private static void promise11_cause_newOnceItReadsMore() {
        EarlyCut x = Setup.oneFileOneStep(-1L, 0L);
        x.file(0L);
        x.build(1);
        x.readsFile(0, 1);
        x.set(0, true, 2L);
        x.build(1);
        Check.due("cause", x.cause(0), 0);
    }

    private static void promise11_cause_forcedBeforeAFileAndAPart() {
        EarlyCut x = Setup.chain(2);
        x.build(-1);
        x.force(0);
        x.force(1);
        Setup.buildWith(x, 2L);
        Check.dueCauses("after it", x, "11");
    }

    private static void promise11_cause_aFileThatIsntThereAnyMore() {
        EarlyCut x = Setup.oneFileOneStep(-1L, 0L);
        Setup.buildWith(x, 0L);
        Setup.buildWithout(x);
        Check.due("gone", x.cause(0), 2);
        Setup.buildWith(x, 3L);
        Check.due("there again", x.cause(0), 2);
    }

    private static void promise11_cause_theFirstOfTheReadsThatAreOther() {
        EarlyCut x = Setup.filesAndSteps(2, 3);
        x.readsFile(0, 0);
        x.readsFile(1, 1);
        x.readsPart(1, 0, 1);
        x.readsPart(2, 0, 1);
        x.readsFile(2, 1);
        x.build(-1);
        x.set(0, true, 5L);
        x.set(1, true, 5L);
        x.build(-1);
        Check.dueCauses("both are other", x, "223");
        x.set(0, true, 6L);
        x.build(-1);
        Check.dueCauses("the part alone", x, "233");
        x.set(1, true, 6L);
        x.build(-1);
        Check.dueCauses("the file alone", x, "-22");
    }

    private static void promise11_cause_theSixthReadAlone() {
        EarlyCut x = Setup.filesAndSteps(6, 2);
        for (int n = 0; n < 5; n++) {
            x.readsFile(1, n);
        }
        x.readsFile(0, 5);
        x.readsPart(1, 0, 0);
        x.build(-1);
        x.set(5, true, 9L);
        x.build(-1);
        Check.dueCauses("a part", x, "23");
    }

    private static void promise11_cause_isToldByTheRecordThatWasFirst() {
        EarlyCut x = Setup.filesAndSteps(2, 2);
        x.readsFile(0, 0);
        x.readsPart(1, 0, 1);
        x.readsFile(1, 1);
        x.build(-1);
        Setup.buildWith(x, 7L);
        x.set(1, true, 9L);
        Setup.buildWith(x, 0L);
        Check.dueStates("the part as by the second record", x, "62");
        Check.dueCauses("but not as by the first", x, "-3");
    }

    private static void promise11_cause_isOfTheLatestBuildAlone() {
        EarlyCut x = Setup.oneFileOneStep(-1L, 0L);
        x.build(1);
        Check.due("new", x.cause(0), 0);
        x.build(1);
        Check.due("clean", x.cause(0), -1);
    }
}
