/** The boundary cases of promises 1 to 8, one test for each. */
public final class FilesAndStepsBoundariesTest {
    public static void main(String[] args) {
        Check.runAll(FilesAndStepsBoundariesTest.class);
    }

    private static void promise01_newObject_noFiles() {
        EarlyCut x = new EarlyCut();
        x.step(0L, 0L);
        for (int n = 0; n < 16; n++) {
            Check.due("set(" + n + ")", x.set(n, true, 0L), false);
            Check.due("touch(" + n + ")", x.touch(n), -1);
            Check.due("readsFile(0, " + n + ")", x.readsFile(0, n), false);
        }
    }

    private static void promise01_newObject_noSteps() {
        EarlyCut x = new EarlyCut();
        x.file(0L);
        for (int n = 0; n < 16; n++) {
            int step = n;
            Check.due("readsFile(" + n + ", 0)", x.readsFile(n, 0), false);
            Check.due("readsPart(" + n + ", 0, 0)", x.readsPart(n, 0, 0), false);
            Check.due("force(" + n + ")", x.force(n), false);
            Check.due("records(" + n + ")", x.records(n), 0);
            Check.due("record(" + n + ", 0, 0)", x.record(n, 0, 0), 0L);
            Check.due("failed(" + n + ", 0)", x.failed(n, 0), -1);
            Check.dueThrow("output(" + n + ", 0)", () -> x.output(step, 0), IllegalArgumentException.class);
        }
        Check.due("build(-1)", x.build(-1), 0);
        Check.dueStates("after it", x, "0000000000000000");
        Check.dueCauses("after it", x, "----------------");
    }

    private static void promise01_newObject_nothingIsCountedBeforeTheFirstBuild() {
        EarlyCut x = new EarlyCut();
        Check.dueCounts("new", x, 0, 0, 0, 0, 0);
        for (int cause = 0; cause < 4; cause++) {
            Check.due("total(" + cause + ")", x.total(cause), 0);
        }
    }

    private static void promise01_newObject_hasNothingOfAnother() {
        EarlyCut full = Setup.filesAndSteps(16, 16);
        full.force(0);
        full.build(-1);
        EarlyCut x = new EarlyCut();
        Check.due("file", x.file(0L), 0);
        Check.due("touch", x.touch(0), 1);
        Check.due("step", x.step(0L, 0L), 0);
        Check.due("force", x.force(0), true);
        Check.due("records", x.records(0), 0);
        Check.due("total", x.total(0), 0);
        Check.due("counted", x.counted(4), 0);
        Check.due("the other one's 17th file", full.file(0L), -1);
    }

    private static void promise01_newObject_changesNothingOfAnother() {
        EarlyCut x = Setup.oneFileOneStep(-1L, 0L);
        x.touch(0);
        x.build(1);
        EarlyCut other = Setup.oneFileOneStep(0L, 1L);
        other.touch(0);
        other.force(0);
        Setup.buildWithout(other);
        other.build(0);
        Check.due("state", x.state(0), 2);
        Check.due("marked", x.counted(4), 1);
        Check.due("body", x.output(0, 1), 528L);
        Check.due("build", x.build(1), 0);
        Check.due("total", x.total(0), 1);
        Check.due("touch", x.touch(0), 2);
    }

    private static void promise02_file_numbersGoFrom0To15() {
        EarlyCut x = new EarlyCut();
        for (int n = 0; n < 16; n++) {
            Check.due("file number " + n, x.file(n), n);
        }
    }

    private static void promise02_file_noneIfThereAre16() {
        EarlyCut x = Setup.filesAndSteps(16, 0);
        for (int n = 17; n <= 40; n++) {
            Check.due("file " + n, x.file(n), -1);
        }
    }

    private static void promise02_file_oneRefusedChangesNoOther() {
        EarlyCut x = Setup.filesAndSteps(16, 1);
        x.readsFile(0, 0);
        x.readsFile(0, 15);
        x.build(1);
        x.file(99L);
        Check.due("build", x.build(1), 0);
        Check.due("there is no file 16", x.set(16, true, 0L), false);
        Check.due("nor is it read", x.readsFile(0, 16), false);
    }

    private static void promise02_file_isThereWithTheLeastAndTheGreatestContent() {
        EarlyCut x = new EarlyCut();
        long[] contents = {Long.MIN_VALUE, Long.MAX_VALUE, -1L, 0L};
        x.step(-1L, 0L);
        for (int n = 0; n < contents.length; n++) {
            x.file(contents[n]);
            x.readsFile(0, n);
        }
        x.build(1);
        Check.due("all are there", x.state(0), 2);
        for (int n = 0; n < contents.length; n++) {
            Check.due("content of file " + n, x.record(0, 0, n), contents[n]);
        }
    }

    private static void promise03_set_falseForANumberTooSmall() {
        EarlyCut x = Setup.filesAndSteps(16, 0);
        for (int number : Setup.TOO_SMALL) {
            Check.due("set(" + number + ", true)", x.set(number, true, 5L), false);
            Check.due("set(" + number + ", false)", x.set(number, false, 5L), false);
        }
    }

    private static void promise03_set_falseForANumberTooLarge() {
        EarlyCut x = Setup.filesAndSteps(16, 0);
        for (int number : Setup.TOO_LARGE) {
            Check.due("set(" + number + ", true)", x.set(number, true, 5L), false);
            Check.due("set(" + number + ", false)", x.set(number, false, 5L), false);
        }
    }

    private static void promise03_set_falseJustPastTheLastFile() {
        EarlyCut x = new EarlyCut();
        for (int n = 0; n < 16; n++) {
            Check.due("set(" + n + ") of " + n, x.set(n, true, 5L), false);
            x.file(0L);
            Check.due("set(" + n + ") of " + (n + 1), x.set(n, true, 5L), true);
        }
    }

    private static void promise03_set_oneRefusedChangesNothing() {
        EarlyCut x = Setup.oneFileOneStep(-1L, 0L);
        x.build(1);
        for (int number : Setup.wrongNumbers(1)) {
            x.set(number, false, 5L);
        }
        Check.due("build", x.build(1), 0);
        Check.due("state", x.state(0), 1);
        Check.due("a file that was set before it was made", x.file(3L), 1);
        x.readsFile(0, 1);
        x.build(1);
        Check.due("is there, with its own content", x.record(0, 0, 1), 3L);
    }

    private static void promise03_set_theSameContentIsNoChange() {
        EarlyCut x = Setup.oneFileOneStep(-1L, 0L);
        Setup.buildWith(x, Long.MIN_VALUE);
        Check.due("set", x.set(0, true, Long.MIN_VALUE), true);
        Check.due("build", x.build(1), 0);
        Check.dueCounts("clean, not marked", x, 0, 0, 0, 0, 0);
    }

    private static void promise03_set_awayAndBackBetweenBuildsIsNoChange() {
        EarlyCut x = Setup.oneFileOneStep(-1L, 0L);
        x.build(1);
        x.set(0, false, 0L);
        x.set(0, true, 1L);
        Check.due("build", x.build(1), 0);
        Check.dueCounts("clean, not marked", x, 0, 0, 0, 0, 0);
    }

    private static void promise03_set_notThereIsTheSameWithAnyContent() {
        EarlyCut x = Setup.oneFileOneStep(-1L, 0L);
        x.set(0, false, 1L);
        x.build(1);
        for (long content : new long[] {0L, -1L, Long.MIN_VALUE, Long.MAX_VALUE}) {
            Check.due("set with " + content, x.set(0, false, content), true);
            Check.due("build", x.build(1), 0);
            Check.due("still", x.state(0), 4);
            Check.due("counted(4)", x.counted(4), 0);
        }
    }

    private static void promise03_set_thereWithContent0IsThere() {
        EarlyCut x = Setup.oneFileOneStep(-1L, 0L);
        Setup.buildWithout(x);
        Check.due("build", Setup.buildWith(x, 0L), 1);
        Check.due("state", x.state(0), 2);
        Check.due("body", x.output(0, 1), 527L);
    }

    private static void promise04_touch_noneForANumberTooSmall() {
        EarlyCut x = Setup.filesAndSteps(16, 0);
        for (int number : Setup.TOO_SMALL) {
            Check.due("touch(" + number + ")", x.touch(number), -1);
        }
    }

    private static void promise04_touch_noneForANumberTooLarge() {
        EarlyCut x = Setup.filesAndSteps(16, 0);
        for (int number : Setup.TOO_LARGE) {
            Check.due("touch(" + number + ")", x.touch(number), -1);
        }
    }

    private static void promise04_touch_noneJustPastTheLastFile() {
        EarlyCut x = new EarlyCut();
        for (int n = 0; n < 16; n++) {
            Check.due("touch(" + n + ") of " + n, x.touch(n), -1);
            x.file(0L);
            Check.due("touch(" + n + ") of " + (n + 1), x.touch(n), 1);
        }
    }

    private static void promise04_touch_countsEachFileAlone() {
        EarlyCut x = Setup.filesAndSteps(16, 0);
        for (int n = 0; n < 16; n++) {
            for (int k = 1; k <= n + 1; k++) {
                Check.due("touch(" + n + ")", x.touch(n), k);
            }
        }
        Check.due("the first one again", x.touch(0), 2);
    }

    private static void promise04_touch_setIsNoTouchAndForgetsNone() {
        EarlyCut x = Setup.filesAndSteps(1, 0);
        x.touch(0);
        x.set(0, true, 5L);
        Check.due("after set", x.touch(0), 2);
        x.set(0, false, 5L);
        Check.due("a file that isn't there", x.touch(0), 3);
    }

    private static void promise04_touch_doesNothingEver() {
        EarlyCut x = Setup.oneFileOneStep(-1L, 4L);
        x.file(9L);
        x.step(-1L, 0L);
        x.readsFile(1, 1);
        x.build(-1);
        Check.dueStates("failed and redone", x, "32");
        for (int n = 0; n < 40; n++) {
            x.touch(0);
            x.touch(1);
        }
        Check.due("build", x.build(-1), 0);
        Check.dueStates("still and clean", x, "41");
        Check.dueCounts("none is marked", x, 0, 0, 0, 0, 0);
        Check.due("records of the first", x.records(0), 1);
    }

    private static void promise05_step_numbersGoFrom0To15() {
        EarlyCut x = new EarlyCut();
        for (int n = 0; n < 16; n++) {
            Check.due("step number " + n, x.step(n, n), n);
        }
    }

    private static void promise05_step_noneIfThereAre16() {
        EarlyCut x = Setup.filesAndSteps(0, 16);
        for (int n = 17; n <= 40; n++) {
            Check.due("step " + n, x.step(0L, 0L), -1);
        }
        Check.due("there is no step 16", x.force(16), false);
        Check.due("build", x.build(-1), 16);
    }

    private static void promise05_step_noneIfTheModulusIsBelow0() {
        EarlyCut x = new EarlyCut();
        for (long modulus : new long[] {-1L, -2L, Integer.MIN_VALUE, -1L << 32, Long.MIN_VALUE}) {
            Check.due("modulus " + modulus, x.step(0L, modulus), -1);
        }
        Check.due("no number is used up", x.step(0L, 0L), 0);
    }

    private static void promise05_step_modulus0AndTheGreatestAreFine() {
        EarlyCut x = new EarlyCut();
        Check.due("modulus 0", x.step(0L, 0L), 0);
        Check.due("modulus 1", x.step(0L, 1L), 1);
        Check.due("2 to the 31", x.step(0L, 1L << 31), 2);
        Check.due("the greatest", x.step(0L, Long.MAX_VALUE), 3);
    }

    private static void promise05_step_anyMaskIsFine() {
        EarlyCut x = new EarlyCut();
        long[] masks = {0L, -1L, Long.MIN_VALUE, Long.MAX_VALUE};
        for (int n = 0; n < masks.length; n++) {
            Check.due("mask " + masks[n], x.step(masks[n], 0L), n);
        }
    }

    private static void promise05_step_noneIfThereAre16AndTheModulusIsBelow0() {
        EarlyCut x = Setup.filesAndSteps(0, 16);
        Check.due("both", x.step(0L, -1L), -1);
    }

    private static void promise06_readsFile_falseIfThereIsNoSuchStep() {
        EarlyCut x = Setup.filesAndSteps(1, 2);
        for (int number : Setup.wrongNumbers(2)) {
            Check.due("readsFile(" + number + ", 0)", x.readsFile(number, 0), false);
        }
        Check.due("the last step", x.readsFile(1, 0), true);
    }

    private static void promise06_readsFile_falseIfThereIsNoSuchFile() {
        EarlyCut x = Setup.filesAndSteps(2, 1);
        for (int number : Setup.wrongNumbers(2)) {
            Check.due("readsFile(0, " + number + ")", x.readsFile(0, number), false);
        }
        Check.due("the last file", x.readsFile(0, 1), true);
    }

    private static void promise06_readsFile_falseIfThereIsNeither() {
        EarlyCut x = Setup.filesAndSteps(1, 1);
        for (int number : Setup.wrongNumbers(1)) {
            Check.due("readsFile(" + number + ", " + number + ")", x.readsFile(number, number), false);
        }
    }

    private static void promise06_readsFile_falseIfItDoesAlready() {
        EarlyCut x = Setup.filesAndSteps(6, 1);
        for (int n = 0; n < 5; n++) {
            x.readsFile(0, n);
            for (int again = 0; again <= n; again++) {
                Check.due("readsFile(0, " + again + ") again", x.readsFile(0, again), false);
            }
        }
        Check.due("none of these was counted", x.readsFile(0, 5), true);
    }

    private static void promise06_readsFile_aFileThatIsntThereIsReadAllTheSame() {
        EarlyCut x = Setup.filesAndSteps(1, 1);
        x.set(0, false, 0L);
        Check.due("readsFile", x.readsFile(0, 0), true);
        Check.due("again", x.readsFile(0, 0), false);
    }

    private static void promise06_readsFile_falseIfItHas6() {
        EarlyCut x = Setup.filesAndSteps(8, 1);
        for (int n = 0; n < 6; n++) {
            Check.due("read " + (n + 1), x.readsFile(0, n), true);
        }
        Check.due("read 7", x.readsFile(0, 6), false);
        Check.due("read 7, another one", x.readsFile(0, 7), false);
    }

    private static void promise06_readsFile_the16thFileByThe16thStep() {
        EarlyCut x = Setup.filesAndSteps(16, 16);
        Check.due("readsFile(15, 15)", x.readsFile(15, 15), true);
        x.build(1 << 15);
        Check.due("its content", x.record(15, 0, 0), 15L);
    }

    private static void promise06_readsFile_itsRecordsGo() {
        EarlyCut x = Setup.oneFileOneStep(-1L, 0L);
        x.file(7L);
        for (int content = 1; content <= 3; content++) {
            Setup.buildWith(x, content);
        }
        Check.due("three records", x.records(0), 3);
        Check.due("readsFile", x.readsFile(0, 1), true);
        Check.due("none", x.records(0), 0);
        Check.due("what was read", x.record(0, 0, 0), 0L);
        Check.dueThrow("output", () -> x.output(0, 1), IllegalStateException.class);
        Check.due("build", x.build(1), 1);
        Check.due("new", x.cause(0), 0);
        Check.due("one record", x.records(0), 1);
    }

    private static void promise06_readsFile_aFailureGoesWithItsRecord() {
        EarlyCut x = Setup.oneFileOneStep(-1L, 4L);
        x.file(0L);
        x.build(1);
        Check.due("failed", x.failed(0, 0), 6);
        x.readsFile(0, 1);
        Check.due("not any more", x.failed(0, 0), -1);
    }

    private static void promise06_readsFile_noOtherStepsRecordsGo() {
        EarlyCut x = Setup.chain(3);
        x.file(7L);
        x.build(-1);
        x.readsFile(1, 1);
        Check.due("the one it reads", x.records(0), 1);
        Check.due("itself", x.records(1), 0);
        Check.due("the one that reads it", x.records(2), 1);
    }

    private static void promise06_readsFile_oneRefusedLeavesTheRecords() {
        EarlyCut x = Setup.filesAndSteps(7, 1);
        x.readsFile(0, 0);
        x.build(1);
        x.readsFile(0, 0);
        Check.due("it does already", x.records(0), 1);
        x.readsFile(0, 7);
        x.readsFile(0, -1);
        Check.due("no such file", x.records(0), 1);
        for (int n = 1; n < 6; n++) {
            x.readsFile(0, n);
        }
        x.build(1);
        x.readsFile(0, 6);
        Check.due("it has six", x.records(0), 1);
        Check.due("build", x.build(1), 0);
    }

    private static void promise07_readsPart_falseIfThereIsNoSuchStep() {
        EarlyCut x = Setup.filesAndSteps(0, 2);
        for (int number : Setup.wrongNumbers(2)) {
            Check.due("readsPart(" + number + ", 0, 0)", x.readsPart(number, 0, 0), false);
        }
        Check.due("the last step", x.readsPart(1, 0, 0), true);
    }

    private static void promise07_readsPart_falseIfThereIsNoSuchOtherStep() {
        EarlyCut x = Setup.filesAndSteps(0, 2);
        for (int number : Setup.wrongNumbers(2)) {
            Check.due("readsPart(1, " + number + ", 0)", x.readsPart(1, number, 0), false);
        }
    }

    private static void promise07_readsPart_falseIfThereIsNoSuchPart() {
        EarlyCut x = Setup.filesAndSteps(0, 2);
        for (int number : Setup.wrongNumbers(2)) {
            Check.due("readsPart(1, 0, " + number + ")", x.readsPart(1, 0, number), false);
        }
        Check.due("readsPart(1, 0, 3)", x.readsPart(1, 0, 3), false);
        Check.due("the last part", x.readsPart(1, 0, 1), true);
    }

    private static void promise07_readsPart_falseIfBothAreBeyondTheLastStep() {
        EarlyCut x = Setup.filesAndSteps(0, 2);
        Check.due("readsPart(3, 2, 0)", x.readsPart(3, 2, 0), false);
        Check.due("readsPart(-1, -2, 0)", x.readsPart(-1, -2, 0), false);
        Check.due("readsPart(17, 16, 0)", x.readsPart(17, 16, 0), false);
    }

    private static void promise07_readsPart_falseIfItDoesAlready() {
        EarlyCut x = Setup.filesAndSteps(1, 4);
        for (int code = 0; code < 5; code++) {
            x.readsPart(3, code / 2, code % 2);
            for (int again = 0; again <= code; again++) {
                Check.due("readsPart(3, " + again / 2 + ", " + again % 2 + ") again",
                    x.readsPart(3, again / 2, again % 2), false);
            }
        }
        Check.due("none of these was counted", x.readsFile(3, 0), true);
    }

    private static void promise07_readsPart_falseIfItHas6() {
        EarlyCut x = Setup.filesAndSteps(0, 5);
        for (int code = 0; code < 6; code++) {
            Check.due("read " + (code + 1), x.readsPart(4, code / 2, code % 2), true);
        }
        Check.due("read 7, a face", x.readsPart(4, 3, 0), false);
        Check.due("read 7, a body", x.readsPart(4, 3, 1), false);
    }

    private static void promise07_readsPart_falseIfTheOtherNumberIsTheSame() {
        EarlyCut x = Setup.filesAndSteps(0, 16);
        for (int n = 0; n < 16; n++) {
            Check.due("face of itself, " + n, x.readsPart(n, n, 0), false);
            Check.due("body of itself, " + n, x.readsPart(n, n, 1), false);
        }
    }

    private static void promise07_readsPart_falseIfTheOtherNumberIsGreater() {
        EarlyCut x = Setup.filesAndSteps(0, 16);
        Check.due("one more", x.readsPart(7, 8, 0), false);
        Check.due("the greatest", x.readsPart(7, 15, 1), false);
        Check.due("by the first", x.readsPart(0, 1, 0), false);
        Check.due("one less", x.readsPart(7, 6, 0), true);
    }

    private static void promise07_readsPart_the15thStepByThe16th() {
        EarlyCut x = new EarlyCut();
        for (int n = 0; n < 16; n++) {
            x.step(n, 0L);
        }
        Check.due("its face", x.readsPart(15, 14, 0), true);
        Check.due("its body", x.readsPart(15, 14, 1), true);
        x.build(1 << 15);
        Check.due("the face", x.record(15, 0, 0), 17L & 14L);
        Check.due("the body", x.record(15, 0, 1), 17L);
    }

    private static void promise07_readsPart_itsRecordsGo() {
        EarlyCut x = Setup.filesAndSteps(1, 2);
        x.readsFile(1, 0);
        for (int content = 1; content <= 3; content++) {
            Setup.buildWith(x, content);
        }
        Check.due("three records", x.records(1), 3);
        Check.due("readsPart", x.readsPart(1, 0, 0), true);
        Check.due("none", x.records(1), 0);
        Check.due("the other one's", x.records(0), 1);
        Check.dueThrow("output", () -> x.output(1, 0), IllegalStateException.class);
        Check.due("build", x.build(2), 1);
        Check.due("new", x.cause(1), 0);
    }

    private static void promise07_readsPart_oneRefusedLeavesTheRecords() {
        EarlyCut x = Setup.filesAndSteps(5, 3);
        x.readsPart(1, 0, 0);
        x.build(2);
        x.readsPart(1, 0, 0);
        Check.due("it does already", x.records(1), 1);
        x.readsPart(1, 0, 2);
        x.readsPart(1, 0, -1);
        Check.due("no such part", x.records(1), 1);
        x.readsPart(1, 1, 0);
        x.readsPart(1, 2, 0);
        x.readsPart(1, 3, 0);
        Check.due("the other number isn't less", x.records(1), 1);
        for (int n = 0; n < 5; n++) {
            x.readsFile(1, n);
        }
        x.build(2);
        x.readsPart(1, 0, 1);
        Check.due("it has six", x.records(1), 1);
        Check.due("build", x.build(2), 0);
    }

    private static void promise08_force_falseForANumberTooSmall() {
        EarlyCut x = Setup.filesAndSteps(0, 16);
        for (int number : Setup.TOO_SMALL) {
            Check.due("force(" + number + ")", x.force(number), false);
        }
    }

    private static void promise08_force_falseForANumberTooLarge() {
        EarlyCut x = Setup.filesAndSteps(0, 16);
        for (int number : Setup.TOO_LARGE) {
            Check.due("force(" + number + ")", x.force(number), false);
        }
    }

    private static void promise08_force_falseJustPastTheLastStep() {
        EarlyCut x = new EarlyCut();
        for (int n = 0; n < 16; n++) {
            Check.due("force(" + n + ") of " + n, x.force(n), false);
            x.step(0L, 0L);
            Check.due("force(" + n + ") of " + (n + 1), x.force(n), true);
        }
    }

    private static void promise08_force_falseIfItIsForcedAlready() {
        EarlyCut x = Setup.filesAndSteps(0, 2);
        x.build(-1);
        Check.due("force(0)", x.force(0), true);
        Check.due("force(0) again", x.force(0), false);
        Check.due("force(0) once more", x.force(0), false);
        Check.due("force(1)", x.force(1), true);
        Check.due("build", x.build(1), 1);
        Check.due("twice forced, once done", x.build(1), 0);
    }

    private static void promise08_force_falseIfANewStepIsForcedAlready() {
        EarlyCut x = Setup.filesAndSteps(0, 1);
        Check.due("force", x.force(0), true);
        Check.due("force again", x.force(0), false);
    }

    private static void promise08_force_oneRefusedForcesNone() {
        EarlyCut x = Setup.filesAndSteps(0, 1);
        x.build(1);
        for (int number : Setup.wrongNumbers(1)) {
            x.force(number);
        }
        Check.due("build", x.build(1), 0);
        x.step(0L, 0L);
        Check.due("a step forced before it was made", x.force(1), true);
    }

    private static void promise08_force_trueAgainOnceDone() {
        EarlyCut x = Setup.filesAndSteps(0, 1);
        x.build(1);
        x.force(0);
        x.build(1);
        Check.due("cause", x.cause(0), 1);
        Check.due("force", x.force(0), true);
    }

    private static void promise08_force_trueAgainOnceItFailed() {
        EarlyCut x = Setup.oneFileOneStep(-1L, 1L);
        x.build(1);
        x.force(0);
        Check.due("build", x.build(1), 1);
        Check.due("failed", x.state(0), 3);
        Check.due("force", x.force(0), true);
    }

    private static void promise08_force_staysIfTheStepIsNotTaken() {
        EarlyCut x = Setup.filesAndSteps(0, 2);
        x.build(-1);
        x.force(1);
        Check.due("build of another", x.build(1), 0);
        Check.due("it is forced yet", x.force(1), false);
        Check.due("build", x.build(2), 1);
    }

    private static void promise08_force_staysIfTheStepIsBlocked() {
        EarlyCut x = Setup.chain(2);
        x.build(-1);
        x.force(1);
        Setup.buildWithout(x);
        Check.due("blocked", x.state(1), 5);
        Check.due("it is forced yet", x.force(1), false);
        Check.due("build", Setup.buildWith(x, 1L), 1);
        Check.due("forced", x.cause(1), 1);
    }

    private static void promise08_force_staysIfTheStepReadsMore() {
        EarlyCut x = Setup.filesAndSteps(1, 1);
        x.build(1);
        x.force(0);
        x.readsFile(0, 0);
        Check.due("it is forced yet", x.force(0), false);
    }

    /** The document could be read otherwise here: README.md says how it was taken. */
    private static void promise08_force_aNewStepThatIsForcedIsDoneOnce() {
        EarlyCut x = Setup.filesAndSteps(0, 1);
        Check.due("force", x.force(0), true);
        Check.due("build", x.build(1), 1);
        Check.due("new", x.cause(0), 0);
        Check.due("build again", x.build(1), 0);
        Check.due("force again", x.force(0), true);
    }
}
