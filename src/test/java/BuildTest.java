/** Promises 9 to 11: build, state, cause. */
public final class BuildTest {
    public static void main(String[] args) {
        Check.runAll(BuildTest.class);
    }

    private static void takesWhatIsReadInTheEnd() {
        EarlyCut x = new EarlyCut();
        for (int n = 0; n < 16; n++) {
            x.step(-1L, 0L);
        }
        for (int n = 2; n < 16; n += 2) {
            x.readsPart(n, n - 2, n / 2 % 2);
        }
        Check.due("build of the end of a chain", x.build(1 << 14), 8);
        Check.dueStates("a chain", x, "2020202020202020");
        Check.due("its middle", x.build(1 << 6), 0);
        Check.dueStates("its middle", x, "1010101000000000");
    }

    private static void cleanRedoneRestored() {
        EarlyCut x = Setup.oneFileOneStep(-1L, 0L);
        Check.due("first", Setup.buildWith(x, 1L), 1);
        Check.dueStates("first", x, "2");
        Check.due("second", Setup.buildWith(x, 2L), 1);
        Check.due("third", Setup.buildWith(x, 3L), 1);
        Check.due("back to the first", Setup.buildWith(x, 1L), 0);
        Check.dueStates("back to the first", x, "6");
        Check.dueCauses("back to the first", x, "-");
        Check.due("stays", Setup.buildWith(x, 1L), 0);
        Check.dueStates("stays", x, "1");
        Check.due("a fourth", Setup.buildWith(x, 4L), 1);
        Check.due("the third, used before", Setup.buildWith(x, 3L), 0);
        Check.dueStates("the third", x, "6");
        Check.due("the second went", Setup.buildWith(x, 2L), 1);
        Check.dueStates("the second went", x, "2");
        Check.due("so the first went too", Setup.buildWith(x, 1L), 1);
    }

    private static void failedAndStill() {
        EarlyCut x = Setup.oneFileOneStep(-1L, 4L);
        Check.due("527 + 1 is a multiple of 4", Setup.buildWith(x, 1L), 1);
        Check.dueStates("a multiple", x, "3");
        Check.dueCauses("a multiple", x, "0");
        Check.due("a failure stays", x.build(1), 0);
        Check.dueStates("a failure stays", x, "4");
        Check.dueCauses("a failure stays", x, "-");
        Check.due("no multiple", Setup.buildWith(x, 2L), 1);
        Check.dueStates("no multiple", x, "2");
        Check.due("back", Setup.buildWith(x, 1L), 0);
        Check.dueStates("back: still, by another record", x, "4");
        Check.due("-531 is none", Setup.buildWith(x, -1058L), 1);
        Check.dueStates("-531", x, "2");
        Check.due("-528 is one", Setup.buildWith(x, -1055L), 1);
        Check.dueStates("-528", x, "3");
        Check.due("0 is one", Setup.buildWith(x, -527L), 1);
        Check.dueStates("0", x, "3");
        Check.due("forced failure: force", x.force(0), true);
        Check.due("forced failure", x.build(1), 1);
        Check.dueStates("forced failure", x, "3");
        Check.dueCauses("forced failure", x, "1");

        EarlyCut y = Setup.oneFileOneStep(-1L, Long.MAX_VALUE);
        Check.due("the least body and the greatest modulus", Setup.buildWith(y, Long.MIN_VALUE - 527L), 1);
        Check.dueStates("the least body", y, "2");
        Check.due("minus the modulus", Setup.buildWith(y, -Long.MAX_VALUE - 527L), 1);
        Check.dueStates("minus the modulus", y, "3");
    }

    private static void blocked() {
        EarlyCut x = new EarlyCut();
        x.file(1L);
        x.step(-1L, 4L);
        x.step(-1L, 0L);
        x.step(-1L, 0L);
        x.step(-1L, 0L);
        x.readsFile(0, 0);
        x.readsPart(1, 0, 0);
        x.readsFile(2, 0);
        x.readsPart(2, 1, 1);
        Check.due("failure blocks", x.build(-1), 2);
        Check.dueStates("failure blocks", x, "3552");
        Check.dueCauses("failure blocks", x, "0--0");
        Check.dueCounts("failure blocks", x, 0, 0, 0, 2, 4);
        Check.due("a failure that stays blocks", x.build(4), 0);
        Check.dueStates("a failure that stays blocks", x, "4550");
        x.set(0, true, 2L);
        Check.due("mended", x.build(-1), 3);
        Check.dueStates("mended", x, "2221");
        Check.dueCauses("mended", x, "200-");
        x.set(0, true, 1L);
        Check.due("failed as before", x.build(4), 0);
        Check.dueStates("failed as before", x, "4550");
        x.set(0, true, 2L);
        Check.due("mended as before", x.build(4), 0);
        Check.dueStates("mended as before", x, "6110");
    }

    private static void blockedLeavesAllAsItIs() {
        EarlyCut x = new EarlyCut();
        x.file(2L);
        x.file(5L);
        x.step(-1L, 4L);
        x.step(-1L, 0L);
        x.readsFile(0, 0);
        x.readsPart(1, 0, 1);
        x.readsFile(1, 1);
        x.build(2);
        long body = x.output(1, 1);
        x.set(0, true, 1L);
        x.set(1, true, 6L);
        Check.due("blocked", x.build(2), 1);
        Check.dueStates("blocked", x, "35");
        Check.due("records stay", x.records(1), 1);
        Check.due("output stays", x.output(1, 1), body);
        Check.due("what was read stays", x.record(1, 0, 1), 5L);
        x.set(0, true, 2L);
        x.set(1, true, 5L);
        Check.due("all as before", x.build(2), 0);
        Check.dueStates("all as before", x, "61");
    }

    private static void blockedByMissingFileToo() {
        EarlyCut x = new EarlyCut();
        x.file(1L);
        x.file(1L);
        x.step(-1L, 0L);
        x.step(-1L, 0L);
        x.readsFile(0, 0);
        x.readsFile(1, 1);
        x.readsPart(1, 0, 0);
        x.set(0, false, 0L);
        x.set(1, false, 0L);
        Check.due("blocked before it can fail", x.build(2), 1);
        Check.dueStates("blocked before it can fail", x, "35");
        Check.due("no record of it", x.records(1), 0);
    }

    private static void causes() {
        EarlyCut x = new EarlyCut();
        x.file(1L);
        x.file(2L);
        x.step(-1L, 0L);
        x.step(-1L, 0L);
        x.readsFile(0, 0);
        x.readsFile(1, 1);
        x.readsPart(1, 0, 1);
        x.build(2);
        Check.dueCauses("new", x, "00");
        x.set(0, true, 3L);
        x.build(2);
        Check.dueCauses("a file, then a part", x, "23");
        x.set(0, true, 4L);
        x.set(1, true, 5L);
        x.build(2);
        Check.dueCauses("the file is read before the part", x, "22");
        x.set(1, false, 0L);
        x.build(2);
        Check.dueStates("a file that went", x, "13");
        Check.dueCauses("a file that went", x, "-2");
        x.force(1);
        x.build(2);
        Check.dueCauses("forced", x, "-1");
    }

    private static void causeIsTheFirstDifferenceToTheFirstRecord() {
        EarlyCut x = new EarlyCut();
        x.file(1L);
        x.file(1L);
        x.step(-1L, 0L);
        x.step(-1L, 0L);
        x.readsFile(0, 0);
        x.readsPart(1, 0, 1);
        x.readsFile(1, 1);
        x.build(2);
        x.set(0, true, 2L);
        x.build(2);
        x.set(0, true, 1L);
        x.set(1, true, 2L);
        x.build(2);
        Check.dueStates("by the first record, not the nearest", x, "62");
        Check.dueCauses("by the first record, not the nearest", x, "-3");
    }

    private static void forcedBeforeChanged() {
        EarlyCut x = Setup.oneFileOneStep(-1L, 0L);
        Setup.buildWith(x, 1L);
        x.force(0);
        Check.due("forced and changed", Setup.buildWith(x, 2L), 1);
        Check.dueCauses("forced and changed", x, "1");
        x.force(0);
        Check.due("forced with a record to restore", Setup.buildWith(x, 1L), 1);
        Check.dueStates("forced with a record to restore", x, "2");
        Check.dueCauses("forced with a record to restore", x, "1");
        Check.due("in place of that record", x.records(0), 2);
        Check.due("first", x.record(0, 0, 0), 1L);
        Check.due("second", x.record(0, 1, 0), 2L);
    }

    private static void cutOffByFace() {
        EarlyCut x = new EarlyCut();
        x.file(1L);
        x.step(~3L, 0L);
        x.step(-1L, 0L);
        x.step(-1L, 0L);
        x.readsFile(0, 0);
        x.readsPart(1, 0, 0);
        x.readsPart(2, 0, 1);
        x.build(-1);
        x.set(0, true, 2L);
        Check.due("the body alone changed", x.build(-1), 2);
        Check.dueStates("the body alone changed", x, "212");
        Check.dueCauses("the body alone changed", x, "2-3");
        x.set(0, true, 5L);
        Check.due("both changed", x.build(-1), 3);
    }

    private static void latestBuildAlone() {
        EarlyCut x = Setup.oneFileOneStep(-1L, 0L);
        x.step(0L, 0L);
        x.build(3);
        Check.dueStates("both", x, "22");
        x.build(2);
        Check.dueStates("the second", x, "01");
        Check.dueCauses("the second", x, "--");
        x.step(0L, 0L);
        Check.due("state of a step made after", x.state(2), 0);
        x.build(0);
        Check.dueStates("none", x, "000");
        Check.dueCauses("none", x, "---");
    }
}
