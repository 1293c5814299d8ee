/** The boundary cases of promises 13 to 16, one test for each. */
public final class RecordsBoundariesTest {
    public static void main(String[] args) {
        Check.runAll(RecordsBoundariesTest.class);
    }

    private static void promise13_output_illegalArgumentForAStepTooSmall() {
        EarlyCut x = Setup.filesAndSteps(0, 16);
        x.build(-1);
        for (int number : Setup.TOO_SMALL) {
            Check.dueThrow("output(" + number + ", 0)", () -> x.output(number, 0), IllegalArgumentException.class);
        }
    }

    private static void promise13_output_illegalArgumentForAStepTooLarge() {
        EarlyCut x = Setup.filesAndSteps(0, 3);
        x.build(-1);
        for (int number : Setup.wrongNumbers(3)) {
            Check.dueThrow("output(" + number + ", 1)", () -> x.output(number, 1), IllegalArgumentException.class);
        }
        Check.due("the last step", x.output(2, 1), 17L);
    }

    private static void promise13_output_illegalArgumentForAPartTooSmall() {
        EarlyCut x = Setup.filesAndSteps(0, 1);
        x.build(-1);
        for (int part : Setup.TOO_SMALL) {
            Check.dueThrow("output(0, " + part + ")", () -> x.output(0, part), IllegalArgumentException.class);
        }
    }

    private static void promise13_output_illegalArgumentForAPartTooLarge() {
        EarlyCut x = Setup.filesAndSteps(0, 1);
        x.build(-1);
        for (int part : Setup.wrongNumbers(2)) {
            Check.dueThrow("output(0, " + part + ")", () -> x.output(0, part), IllegalArgumentException.class);
        }
        Check.due("the last part", x.output(0, 1), 17L);
    }

    private static void promise13_output_illegalStateWithoutARecord() {
        EarlyCut x = Setup.filesAndSteps(0, 2);
        Check.dueThrow("no build", () -> x.output(0, 0), IllegalStateException.class);
        x.build(1);
        Check.dueThrow("not taken", () -> x.output(1, 1), IllegalStateException.class);
        Check.due("taken", x.output(0, 1), 17L);
    }

    private static void promise13_output_illegalStateOnceTheRecordsWent() {
        EarlyCut x = Setup.filesAndSteps(1, 1);
        x.build(1);
        x.readsFile(0, 0);
        Check.dueThrow("face", () -> x.output(0, 0), IllegalStateException.class);
        Check.dueThrow("body", () -> x.output(0, 1), IllegalStateException.class);
    }

    private static void promise13_output_illegalStateIfItFailedByItself() {
        EarlyCut x = Setup.oneFileOneStep(-1L, 1L);
        x.build(1);
        Check.dueThrow("failed", () -> x.output(0, 0), IllegalStateException.class);
        x.build(1);
        Check.dueThrow("still", () -> x.output(0, 1), IllegalStateException.class);
    }

    private static void promise13_output_illegalStateIfItFailedByAFile() {
        EarlyCut x = Setup.oneFileOneStep(-1L, 0L);
        x.build(1);
        Setup.buildWithout(x);
        Check.dueThrow("failed", () -> x.output(0, 0), IllegalStateException.class);
        Check.dueThrow("failed", () -> x.output(0, 1), IllegalStateException.class);
    }

    private static void promise13_output_illegalStateForOneBlockedThatIsNew() {
        EarlyCut x = Setup.chain(2);
        Setup.buildWithout(x);
        Check.dueThrow("blocked", () -> x.output(1, 1), IllegalStateException.class);
    }

    private static void promise13_output_illegalArgumentBeforeIllegalState() {
        EarlyCut x = Setup.oneFileOneStep(-1L, 1L);
        Check.dueThrow("no record", () -> x.output(0, 2), IllegalArgumentException.class);
        x.build(1);
        Check.dueThrow("failed", () -> x.output(0, -1), IllegalArgumentException.class);
        Check.dueThrow("no step, no part", () -> x.output(1, 2), IllegalArgumentException.class);
    }

    private static void promise13_output_isByTheFirstRecordTillTheNextBuild() {
        EarlyCut x = Setup.oneFileOneStep(-1L, 0L);
        x.build(1);
        x.set(0, false, 0L);
        x.force(0);
        Check.due("body", x.output(0, 1), 528L);
    }

    private static void promise13_output_staysThoughTheLatestBuildDidntTakeTheStep() {
        EarlyCut x = Setup.filesAndSteps(0, 1);
        x.build(1);
        x.build(0);
        Check.due("state", x.state(0), 0);
        Check.due("body", x.output(0, 1), 17L);
    }

    private static void promise13_output_isByTheRecordThatWasRestored() {
        EarlyCut x = Setup.oneFileOneStep(-1L, 4L);
        Setup.buildWith(x, 2L);
        Setup.buildWith(x, 1L);
        Check.dueThrow("failed", () -> x.output(0, 1), IllegalStateException.class);
        Setup.buildWith(x, 2L);
        Check.due("restored", x.output(0, 1), 529L);
        Setup.buildWith(x, 1L);
        Check.dueThrow("still", () -> x.output(0, 1), IllegalStateException.class);
    }

    private static void promise13_output_faceAndBodyWithTheHighestBit() {
        EarlyCut x = Setup.oneFileOneStep(Long.MIN_VALUE, 0L);
        Setup.buildWith(x, Long.MIN_VALUE);
        Check.due("face", x.output(0, 0), Long.MIN_VALUE);
        Check.due("body", x.output(0, 1), Long.MIN_VALUE + 527L);
    }

    private static void promise14_records_0ForANumberTooSmall() {
        EarlyCut x = Setup.filesAndSteps(0, 16);
        x.build(-1);
        for (int number : Setup.TOO_SMALL) {
            Check.due("records(" + number + ")", x.records(number), 0);
        }
    }

    private static void promise14_records_0ForANumberTooLarge() {
        EarlyCut x = Setup.filesAndSteps(0, 16);
        x.build(-1);
        for (int number : Setup.TOO_LARGE) {
            Check.due("records(" + number + ")", x.records(number), 0);
        }
        Check.due("the last step", x.records(15), 1);
    }

    private static void promise14_records_0ForANewStep() {
        EarlyCut x = Setup.filesAndSteps(0, 1);
        Check.due("just past the last", x.records(1), 0);
        Check.due("not built", x.records(0), 0);
        x.build(0);
        Check.due("not taken", x.records(0), 0);
    }

    private static void promise14_records_atMost3() {
        EarlyCut x = Setup.oneFileOneStep(-1L, 0L);
        for (int n = 1; n <= 6; n++) {
            Setup.buildWith(x, n);
            Check.due("after " + n, x.records(0), Math.min(n, 3));
        }
    }

    private static void promise14_records_oneOfAFailureIsOne() {
        EarlyCut x = Setup.oneFileOneStep(-1L, 1L);
        Setup.buildWith(x, 1L);
        Check.due("by itself", x.records(0), 1);
        Setup.buildWithout(x);
        Check.due("by a file", x.records(0), 2);
        Setup.buildWithout(x);
        Check.due("still", x.records(0), 2);
    }

    private static void promise14_records_noneMoreForTheSameReads() {
        EarlyCut x = Setup.oneFileOneStep(-1L, 0L);
        Setup.buildWith(x, 1L);
        x.force(0);
        Setup.buildWith(x, 1L);
        Check.due("forced", x.records(0), 1);
        Setup.buildWith(x, 2L);
        Setup.buildWith(x, 1L);
        Check.due("restored", x.records(0), 2);
    }

    private static void promise14_records_noneForOneBlocked() {
        EarlyCut x = Setup.chain(2);
        Setup.buildWithout(x);
        Check.due("new", x.records(1), 0);
        Setup.buildWith(x, 1L);
        Setup.buildWithout(x);
        Check.due("not new", x.records(1), 1);
    }

    private static void promise15_record_0ForAStepTooSmallOrTooLarge() {
        EarlyCut x = Setup.oneFileOneStep(-1L, 0L);
        Setup.buildWith(x, 5L);
        for (int number : Setup.wrongNumbers(1)) {
            Check.due("record(" + number + ", 0, 0)", x.record(number, 0, 0), 0L);
        }
        Check.due("such a one", x.record(0, 0, 0), 5L);
    }

    private static void promise15_record_0ForARecordTooSmallOrTooLarge() {
        EarlyCut x = Setup.oneFileOneStep(-1L, 0L);
        for (int count = 1; count <= 5; count++) {
            Setup.buildWith(x, count);
            for (int k : Setup.wrongNumbers(Math.min(count, 3))) {
                Check.due("record(0, " + k + ", 0) of " + count, x.record(0, k, 0), 0L);
            }
            Check.due("the last of " + count, x.record(0, Math.min(count, 3) - 1, 0), Math.max(count - 2, 1));
        }
    }

    private static void promise15_record_0ForAReadTooSmallOrTooLarge() {
        EarlyCut x = new EarlyCut();
        x.step(-1L, 0L);
        for (int count = 1; count <= 6; count++) {
            x.file(100L + count);
            x.readsFile(0, count - 1);
            x.build(1);
            for (int i : Setup.wrongNumbers(count)) {
                Check.due("record(0, 0, " + i + ") of " + count, x.record(0, 0, i), 0L);
            }
            Check.due("the last of " + count, x.record(0, 0, count - 1), 100L + count);
        }
    }

    private static void promise15_record_0BeforeABuildAndOnceTheRecordsWent() {
        EarlyCut x = Setup.oneFileOneStep(-1L, 0L);
        Check.due("before", x.record(0, 0, 0), 0L);
        x.build(1);
        Check.due("then", x.record(0, 0, 0), 1L);
        x.file(2L);
        x.readsFile(0, 1);
        Check.due("they went", x.record(0, 0, 0), 0L);
        Check.due("the new read", x.record(0, 0, 1), 0L);
    }

    private static void promise15_record_0IfTheFileWasntThere() {
        EarlyCut x = Setup.oneFileOneStep(-1L, 0L);
        x.set(0, false, 77L);
        x.build(1);
        Check.due("not there", x.record(0, 0, 0), 0L);
        Setup.buildWith(x, 78L);
        x.set(0, false, 79L);
        x.build(1);
        Check.due("not there once more", x.record(0, 0, 0), 0L);
        Check.due("it was there between", x.record(0, 1, 0), 78L);
    }

    private static void promise15_record_whatIsReadBehindAFileThatWasntThere() {
        EarlyCut x = Setup.filesAndSteps(3, 2);
        x.readsFile(1, 0);
        x.readsFile(1, 2);
        x.readsPart(1, 0, 1);
        Setup.buildWithout(x);
        Check.due("failed", x.state(1), 3);
        Check.due("the file behind it", x.record(1, 0, 1), 2L);
        Check.due("the part behind it", x.record(1, 0, 2), 17L);
    }

    private static void promise15_record_theLastReadOfTheLastRecord() {
        EarlyCut x = Setup.filesAndSteps(6, 1);
        for (int n = 0; n < 6; n++) {
            x.readsFile(0, n);
        }
        for (long content : new long[] {Long.MIN_VALUE, Long.MAX_VALUE, -1L}) {
            x.set(5, true, content);
            x.build(1);
        }
        Check.due("record(0, 2, 5)", x.record(0, 2, 5), Long.MIN_VALUE);
        Check.due("record(0, 1, 5)", x.record(0, 1, 5), Long.MAX_VALUE);
        Check.due("record(0, 0, 5)", x.record(0, 0, 5), -1L);
        Check.due("record(0, 3, 5)", x.record(0, 3, 5), 0L);
        Check.due("record(0, 2, 6)", x.record(0, 2, 6), 0L);
    }

    private static void promise15_record_isWhatWasReadNotWhatIsNow() {
        EarlyCut x = Setup.oneFileOneStep(-1L, 0L);
        x.build(1);
        x.set(0, true, 2L);
        Check.due("record", x.record(0, 0, 0), 1L);
    }

    private static void promise16_failed_noneForAStepTooSmallOrTooLarge() {
        EarlyCut x = Setup.oneFileOneStep(-1L, 1L);
        x.build(1);
        for (int number : Setup.wrongNumbers(1)) {
            Check.due("failed(" + number + ", 0)", x.failed(number, 0), -1);
        }
        Check.due("such a one", x.failed(0, 0), 6);
    }

    private static void promise16_failed_noneForARecordTooSmallOrTooLarge() {
        EarlyCut x = Setup.oneFileOneStep(-1L, 1L);
        for (int count = 1; count <= 5; count++) {
            Setup.buildWith(x, count);
            for (int k : Setup.wrongNumbers(Math.min(count, 3))) {
                Check.due("failed(0, " + k + ") of " + count, x.failed(0, k), -1);
            }
            Check.due("the last of " + count, x.failed(0, Math.min(count, 3) - 1), 6);
        }
    }

    private static void promise16_failed_noneWithoutARecord() {
        EarlyCut x = Setup.oneFileOneStep(-1L, 1L);
        Check.due("before a build", x.failed(0, 0), -1);
        x.build(1);
        x.file(0L);
        x.readsFile(0, 1);
        Check.due("once they went", x.failed(0, 0), -1);
    }

    private static void promise16_failed_noneIfItDidnt() {
        EarlyCut x = Setup.oneFileOneStep(-1L, 4L);
        Setup.buildWith(x, 2L);
        Check.due("an output", x.failed(0, 0), -1);
    }

    private static void promise16_failed_noneForOneBlocked() {
        EarlyCut x = Setup.chain(2);
        Setup.buildWithout(x);
        Check.due("blocked", x.failed(1, 0), -1);
    }

    private static void promise16_failed_eachPlaceFrom0To5() {
        EarlyCut x = Setup.filesAndSteps(6, 1);
        for (int n = 5; n >= 0; n--) {
            x.readsFile(0, n);
        }
        for (int place = 0; place < 6; place++) {
            x.set(5 - place, false, 0L);
            x.build(1);
            Check.due("the file at place " + place, x.failed(0, 0), place);
            x.set(5 - place, true, 5L - place);
        }
    }

    private static void promise16_failed_theFirstPlaceOfSome() {
        EarlyCut x = Setup.filesAndSteps(6, 1);
        for (int n = 0; n < 6; n++) {
            x.readsFile(0, n);
        }
        for (int n = 5; n >= 0; n--) {
            x.set(n, false, 0L);
            x.build(1);
            Check.due("files from " + n + " on", x.failed(0, 0), n);
        }
    }

    private static void promise16_failed_thePlaceCountsPartsToo() {
        EarlyCut x = Setup.filesAndSteps(1, 2);
        x.readsPart(1, 0, 0);
        x.readsPart(1, 0, 1);
        x.readsFile(1, 0);
        Setup.buildWithout(x);
        Check.due("the file behind two parts", x.failed(1, 0), 2);
    }

    private static void promise16_failed_6ByItselfWithoutReadsAndWithSix() {
        EarlyCut x = new EarlyCut();
        x.step(0L, 17L);
        x.build(1);
        Check.due("no reads", x.failed(0, 0), 6);
        EarlyCut y = new EarlyCut();
        y.step(0L, 1L);
        for (int n = 0; n < 6; n++) {
            y.file(n);
            y.readsFile(0, n);
        }
        y.build(1);
        Check.due("six reads", y.failed(0, 0), 6);
    }

    private static void promise16_failed_thePlaceNot6IfBothWouldFailIt() {
        EarlyCut x = Setup.filesAndSteps(2, 0);
        x.step(-1L, 1L);
        x.readsFile(0, 1);
        x.readsFile(0, 0);
        Setup.buildWithout(x);
        Check.due("by the file", x.failed(0, 0), 1);
    }

    private static void promise16_failed_isToldOfEachRecordInTheirOrder() {
        EarlyCut x = Setup.oneFileOneStep(-1L, 4L);
        Setup.buildWith(x, 1L);
        Setup.buildWith(x, 2L);
        Setup.buildWithout(x);
        dueFailed("by a file, none, by itself", x, 0, -1, 6);
        Setup.buildWith(x, 1L);
        dueFailed("by itself, by a file, none", x, 6, 0, -1);
        Setup.buildWith(x, 3L);
        dueFailed("none, by itself, by a file", x, -1, 6, 0);
    }

    private static void dueFailed(String when, EarlyCut x, int... want) {
        for (int k = 0; k < want.length; k++) {
            Check.due(when + ": failed(0, " + k + ")", x.failed(0, k), want[k]);
        }
    }
}
