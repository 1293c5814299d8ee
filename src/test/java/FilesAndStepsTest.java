/** Promises 1 to 8: a new object, file, set, touch, step, readsFile, readsPart, force. */
public final class FilesAndStepsTest {
    private static final int[] ODD_NUMBERS = {
        Integer.MIN_VALUE, -2, -1, 16, 17, 31, 32, 64, Integer.MAX_VALUE};

    public static void main(String[] args) {
        Check.runAll(FilesAndStepsTest.class);
    }

    private static void file() {
        EarlyCut x = new EarlyCut();
        for (int n = 0; n < 16; n++) {
            Check.due("file number " + n, x.file(100L + n), n);
        }
        Check.due("the 17th file", x.file(5L), -1);
        Check.due("the 18th file", x.file(Long.MIN_VALUE), -1);
        Check.due("set(15) of 16", x.set(15, true, 1L), true);
        Check.due("set(16) of 16", x.set(16, true, 1L), false);
        Check.due("touch(16) of 16", x.touch(16), -1);
    }

    private static void fileIsThereAtFirst() {
        EarlyCut x = new EarlyCut();
        x.file(Long.MIN_VALUE);
        x.file(7L);
        x.step(-1L, 0L);
        x.readsFile(0, 0);
        x.readsFile(0, 1);
        Check.due("build(1)", x.build(1), 1);
        Check.dueStates("files are there", x, "2");
        Check.due("record of file 0", x.record(0, 0, 0), Long.MIN_VALUE);
        Check.due("record of file 1", x.record(0, 0, 1), 7L);
        Check.due("body, wrapped round", x.output(0, 1), 31L * (31L * 17L + Long.MIN_VALUE) + 7L);
    }

    private static void set() {
        EarlyCut x = new EarlyCut();
        x.file(1L);
        for (int number : ODD_NUMBERS) {
            Check.due("set(" + number + ")", x.set(number, true, 1L), false);
        }
        Check.due("set(1) of one file", x.set(1, false, 1L), false);
        Check.due("set(0, true)", x.set(0, true, 1L), true);
        Check.due("set(0, false)", x.set(0, false, 1L), true);
        Check.due("set(0, false) again", x.set(0, false, 2L), true);
    }

    private static void setIsSeenByBuilds() {
        EarlyCut x = new EarlyCut();
        x.file(1L);
        x.step(-1L, 0L);
        x.readsFile(0, 0);
        x.build(1);
        x.set(0, true, 1L);
        Check.due("the same content: build", x.build(1), 0);
        x.set(0, false, 1L);
        Check.due("gone: build", x.build(1), 1);
        Check.dueStates("gone", x, "3");
        x.set(0, false, 9L);
        Check.due("gone with another content: build", x.build(1), 0);
        Check.dueStates("still gone", x, "4");
        x.set(0, true, 0L);
        Check.due("there with content 0 is not gone: build", x.build(1), 1);
        Check.dueStates("there again", x, "2");
        Check.due("body of content 0", x.output(0, 1), 527L);
    }

    private static void touch() {
        EarlyCut x = new EarlyCut();
        x.file(1L);
        x.file(2L);
        x.step(-1L, 0L);
        x.readsFile(0, 0);
        x.build(1);
        Check.due("touch(0)", x.touch(0), 1);
        Check.due("touch(0) again", x.touch(0), 2);
        Check.due("touch(1)", x.touch(1), 1);
        x.set(0, true, 1L);
        Check.due("set is no touch", x.touch(0), 3);
        for (int number : ODD_NUMBERS) {
            Check.due("touch(" + number + ")", x.touch(number), -1);
        }
        Check.due("touch(2) of two files", x.touch(2), -1);
        Check.due("touched: build", x.build(1), 0);
        Check.dueStates("touched", x, "1");
        Check.dueCounts("touched", x, 0, 0, 0, 0, 0);
        x.set(0, false, 0L);
        Check.due("touch of a file that isn't there", x.touch(0), 4);
    }

    private static void step() {
        EarlyCut x = new EarlyCut();
        Check.due("step with modulus -1", x.step(0L, -1L), -1);
        Check.due("step with the least modulus", x.step(0L, Long.MIN_VALUE), -1);
        for (int n = 0; n < 16; n++) {
            Check.due("step number " + n, x.step(n, n == 3 ? Long.MAX_VALUE : 0L), n);
        }
        Check.due("the 17th step", x.step(0L, 0L), -1);
        Check.due("force(15) of 16", x.force(15), true);
        Check.due("force(16) of 16", x.force(16), false);
        Check.due("state(16) of 16", x.state(16), 0);
        Check.due("build(-1) of 16", x.build(-1), 16);
    }

    private static void modulusAndMaskAreUsed() {
        EarlyCut x = new EarlyCut();
        x.step(5L, 0L);
        x.step(-1L, 17L);
        x.step(-1L, 16L);
        x.step(-1L, 1L);
        x.step(-1L, Long.MAX_VALUE);
        Check.due("steps that read nothing: build", x.build(31), 5);
        Check.dueStates("moduli", x, "23232");
        Check.due("face is body and mask", x.output(0, 0), 17L & 5L);
        Check.due("body", x.output(0, 1), 17L);
        Check.due("failed(1, 0)", x.failed(1, 0), 6);
        Check.due("failed(3, 0)", x.failed(3, 0), 6);
        Check.due("again: build", x.build(31), 0);
        Check.dueStates("moduli again", x, "14141");
    }

    private static void readsFile() {
        EarlyCut x = new EarlyCut();
        x.file(1L);
        x.file(2L);
        x.step(0L, 0L);
        x.step(0L, 0L);
        for (int number : ODD_NUMBERS) {
            Check.due("readsFile(" + number + ", 0)", x.readsFile(number, 0), false);
            Check.due("readsFile(0, " + number + ")", x.readsFile(0, number), false);
        }
        Check.due("readsFile(2, 0) of two steps", x.readsFile(2, 0), false);
        Check.due("readsFile(0, 2) of two files", x.readsFile(0, 2), false);
        Check.due("readsFile(0, 1)", x.readsFile(0, 1), true);
        Check.due("readsFile(0, 1) again", x.readsFile(0, 1), false);
        Check.due("readsFile(1, 1)", x.readsFile(1, 1), true);
        Check.due("readsFile(0, 0)", x.readsFile(0, 0), true);
        x.build(1);
        Check.due("the first read", x.record(0, 0, 0), 2L);
        Check.due("the second read", x.record(0, 0, 1), 1L);
        Check.due("body in the order of reads", x.output(0, 1), 31L * (31L * 17L + 2L) + 1L);
    }

    private static void readsPart() {
        EarlyCut x = new EarlyCut();
        x.step(1L, 0L);
        x.step(3L, 0L);
        x.step(0L, 0L);
        for (int number : ODD_NUMBERS) {
            Check.due("readsPart(" + number + ", 0, 0)", x.readsPart(number, 0, 0), false);
            Check.due("readsPart(2, " + number + ", 0)", x.readsPart(2, number, 0), false);
            Check.due("readsPart(2, 0, " + number + ")", x.readsPart(2, 0, number), false);
        }
        Check.due("readsPart(2, 0, 2)", x.readsPart(2, 0, 2), false);
        Check.due("readsPart(3, 0, 0) of three", x.readsPart(3, 0, 0), false);
        Check.due("readsPart(2, 3, 0) of three", x.readsPart(2, 3, 0), false);
        Check.due("a part of itself", x.readsPart(1, 1, 0), false);
        Check.due("a part of a greater one", x.readsPart(1, 2, 0), false);
        Check.due("readsPart(2, 1, 1)", x.readsPart(2, 1, 1), true);
        Check.due("readsPart(2, 1, 1) again", x.readsPart(2, 1, 1), false);
        Check.due("readsPart(2, 1, 0)", x.readsPart(2, 1, 0), true);
        Check.due("readsPart(2, 0, 0)", x.readsPart(2, 0, 0), true);
        Check.due("readsPart(2, 0, 0) again", x.readsPart(2, 0, 0), false);
        Check.due("readsPart(2, 0, 1)", x.readsPart(2, 0, 1), true);
        Check.due("build(4) takes what it reads", x.build(4), 3);
        Check.due("body of 1", x.record(2, 0, 0), 17L);
        Check.due("face of 1", x.record(2, 0, 1), 17L & 3L);
        Check.due("face of 0", x.record(2, 0, 2), 17L & 1L);
        Check.due("body of 0", x.record(2, 0, 3), 17L);
    }

    private static void readsAreAtMostSix() {
        EarlyCut x = new EarlyCut();
        for (int n = 0; n < 8; n++) {
            x.file(n);
        }
        x.step(0L, 0L);
        x.step(0L, 0L);
        Check.due("a part as the first read", x.readsPart(1, 0, 1), true);
        for (int n = 0; n < 5; n++) {
            Check.due("read " + (n + 2), x.readsFile(1, n), true);
        }
        Check.due("build(2)", x.build(2), 2);
        Check.due("record of the 6th read", x.record(1, 0, 5), 4L);
        Check.due("record of a 7th read", x.record(1, 0, 6), 0L);
        Check.due("six reads, nothing changed: build", x.build(2), 0);
        Check.due("a 7th read, of a file", x.readsFile(1, 5), false);
        Check.due("a 7th read, of a part", x.readsPart(1, 0, 0), false);
        Check.due("records after reads that were refused", x.records(1), 1);
        for (int n = 0; n < 6; n++) {
            Check.due("another step's read " + n, x.readsFile(0, n), true);
        }
        Check.due("its 7th", x.readsFile(0, 6), false);
    }

    private static void readsDropTheRecordsOfTheirStepAlone() {
        EarlyCut x = new EarlyCut();
        x.file(1L);
        x.file(2L);
        x.step(-1L, 0L);
        x.step(-1L, 0L);
        x.step(-1L, 0L);
        x.readsPart(1, 0, 1);
        x.readsPart(2, 1, 1);
        x.build(4);
        Check.due("readsFile(1, 0)", x.readsFile(1, 0), true);
        Check.due("records(0)", x.records(0), 1);
        Check.due("records(1)", x.records(1), 0);
        Check.due("records(2)", x.records(2), 1);
        Check.dueStates("what it was by the latest build stays", x, "222");
        Check.dueThrow("output(1, 1)", () -> x.output(1, 1), IllegalStateException.class);
        Check.due("record(1, 0, 0)", x.record(1, 0, 0), 0);
        Check.due("readsFile(1, 0) again", x.readsFile(1, 0), false);
        Check.due("build(4)", x.build(4), 2);
        Check.dueCauses("after a new read", x, "-03");
        Check.due("readsPart(1, 0, 0)", x.readsPart(1, 0, 0), true);
        Check.due("records(1) after a part", x.records(1), 0);
        x.build(4);
        Check.due("readsPart(1, 0, 0) refused", x.readsPart(1, 0, 0), false);
        Check.due("records(1) after a refusal", x.records(1), 1);
    }

    private static void force() {
        EarlyCut x = new EarlyCut();
        x.step(0L, 0L);
        for (int number : ODD_NUMBERS) {
            Check.due("force(" + number + ")", x.force(number), false);
        }
        Check.due("force(1) of one step", x.force(1), false);
        x.build(1);
        Check.due("force(0)", x.force(0), true);
        Check.due("force(0) again", x.force(0), false);
        Check.due("forced: build", x.build(1), 1);
        Check.dueCauses("forced", x, "1");
        Check.due("not forced any more: build", x.build(1), 0);
        Check.due("force(0) anew", x.force(0), true);
    }

    private static void forceLastsTillDone() {
        EarlyCut x = new EarlyCut();
        x.file(1L);
        x.step(-1L, 0L);
        x.step(-1L, 0L);
        x.readsFile(0, 0);
        x.readsPart(1, 0, 1);
        x.build(2);
        x.force(1);
        Check.due("another step's build", x.build(1), 0);
        Check.due("force(1) while forced", x.force(1), false);
        x.set(0, false, 0L);
        Check.due("blocked: build", x.build(2), 1);
        Check.dueStates("blocked", x, "35");
        Check.due("force(1) while blocked", x.force(1), false);
        x.set(0, true, 1L);
        Check.due("free again: build", x.build(2), 1);
        Check.dueStates("free again", x, "62");
        Check.dueCauses("free again", x, "-1");
        Check.due("force(1) after that", x.force(1), true);

        EarlyCut y = new EarlyCut();
        y.step(0L, 0L);
        y.force(0);
        Check.due("new and forced: build", y.build(1), 1);
        Check.dueCauses("new and forced", y, "0");
        Check.due("done is done: build", y.build(1), 0);
    }
}
