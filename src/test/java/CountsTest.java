/** Promises 12, 17 and 18: counted, total, share. */
public final class CountsTest {
    public static void main(String[] args) {
        Check.runAll(CountsTest.class);
    }

    /** Step 0 reads file 0; step 1 its face; step 2 a part of step 1. */
    private static EarlyCut chain(long mask) {
        EarlyCut x = new EarlyCut();
        x.file(1L);
        x.step(mask, 0L);
        x.step(-1L, 0L);
        x.step(-1L, 0L);
        x.readsFile(0, 0);
        x.readsPart(1, 0, 0);
        x.readsPart(2, 1, 1);
        x.build(4);
        return x;
    }

    private static void savedByCut() {
        EarlyCut x = chain(0L);
        Check.dueCounts("at first", x, 0, 0, 0, 0, 3);
        x.set(0, true, 2L);
        Check.due("the face stays", x.build(4), 1);
        Check.dueCounts("the face stays", x, 2, 0, 1, 0, 3);
        x.build(4);
        Check.dueCounts("nothing changed", x, 0, 0, 0, 0, 0);
    }

    private static void savedByRestoring() {
        EarlyCut x = chain(-1L);
        x.set(0, true, 2L);
        x.build(4);
        x.set(0, true, 1L);
        Check.due("restored", x.build(4), 0);
        Check.dueStates("restored", x, "666");
        Check.dueCounts("restored", x, 3, 0, 0, 0, 3);
    }

    private static void savedByFailuresThatStay() {
        EarlyCut x = new EarlyCut();
        x.file(1L);
        x.step(0L, 0L);
        x.step(-1L, 17L);
        x.step(-1L, 0L);
        x.readsFile(0, 0);
        x.readsPart(1, 0, 0);
        x.readsPart(2, 1, 0);
        x.build(4);
        Check.dueStates("527 is a multiple of 17", x, "235");
        x.set(0, true, 2L);
        Check.due("still", x.build(4), 1);
        Check.dueStates("still", x, "245");
        Check.dueCounts("marked and still by the first record", x, 1, 0, 1, 1, 3);
        x.build(4);
        Check.dueCounts("still, but not marked; blocked, without a record", x, 0, 0, 0, 1, 1);

        EarlyCut y = new EarlyCut();
        y.file(1L);
        y.step(-1L, 4L);
        y.readsFile(0, 0);
        y.build(1);
        y.set(0, true, 2L);
        y.build(1);
        y.set(0, true, 1L);
        y.build(1);
        Check.dueStates("still by another record", y, "4");
        Check.dueCounts("still by another record", y, 1, 0, 0, 0, 1);
    }

    private static void cutByForce() {
        EarlyCut x = chain(-1L);
        x.force(0);
        Check.due("forced", x.build(4), 1);
        Check.dueStates("forced", x, "211");
        Check.dueCounts("forced", x, 2, 1, 0, 0, 3);
    }

    /** 31 a + b is the same for (1, 0) and (0, 31): other reads, the same output. */
    private static void cutByOtherReads() {
        EarlyCut x = new EarlyCut();
        x.file(1L);
        x.file(0L);
        x.step(-1L, 0L);
        x.readsFile(0, 0);
        x.readsFile(0, 1);
        x.build(1);
        x.set(0, true, 0L);
        x.set(1, true, 31L);
        Check.due("redone", x.build(1), 1);
        Check.dueCounts("redone, cut", x, 0, 1, 0, 0, 1);
        Check.due("one of two", x.share(), 500);
        x.set(0, true, 1L);
        x.set(1, true, 0L);
        Check.due("restored", x.build(1), 0);
        Check.dueStates("restored", x, "6");
        Check.dueCounts("restored, cut", x, 1, 1, 0, 0, 1);
        Check.due("restored isn't counted", x.share(), 500);
        x.build(1);
        Check.dueCounts("clean is neither", x, 0, 0, 0, 0, 0);
    }

    private static void half() {
        EarlyCut x = new EarlyCut();
        x.file(1L);
        x.step(~3L, 0L);
        x.readsFile(0, 0);
        x.build(1);
        x.set(0, true, 2L);
        x.build(1);
        Check.dueCounts("528, 529: redone, half", x, 0, 0, 1, 0, 1);
        x.set(0, true, 9L);
        x.build(1);
        Check.dueCounts("536: redone, neither", x, 0, 0, 0, 0, 1);
        x.set(0, true, 1L);
        x.build(1);
        Check.dueCounts("528: restored, neither", x, 1, 0, 0, 0, 1);
        x.set(0, true, 2L);
        x.build(1);
        Check.dueCounts("529: restored, half", x, 1, 0, 1, 0, 1);
        Check.due("half is no cut", x.share(), 0);
    }

    private static void nothingToCompareWith() {
        EarlyCut x = new EarlyCut();
        x.file(1L);
        x.step(0L, 4L);
        x.readsFile(0, 0);
        x.build(1);
        Check.dueStates("failed", x, "3");
        x.force(0);
        x.build(1);
        Check.dueCounts("failed after failed", x, 0, 0, 0, 0, 1);
        x.set(0, true, 2L);
        x.build(1);
        Check.dueStates("an output after a failure", x, "2");
        Check.dueCounts("an output after a failure", x, 0, 0, 0, 0, 1);
        x.set(0, true, 1L);
        x.build(1);
        Check.dueCounts("a failure after an output", x, 1, 0, 0, 0, 1);
        x.set(0, true, 2L);
        x.build(1);
        Check.dueStates("an output restored after a failure", x, "6");
        Check.dueCounts("an output restored after a failure", x, 1, 0, 0, 0, 1);
        x.set(0, false, 0L);
        x.build(1);
        Check.dueCounts("a failure by a file after an output", x, 0, 0, 0, 0, 1);
    }

    private static void markedByPartsOfMarkedOnes() {
        EarlyCut x = chain(0L);
        x.force(1);
        Check.due("forced in the middle", x.build(4), 1);
        Check.dueStates("forced in the middle", x, "121");
        Check.dueCounts("forced in the middle", x, 1, 1, 0, 0, 2);
        x.set(0, false, 0L);
        Check.due("failed at the root", x.build(4), 1);
        Check.dueStates("failed at the root", x, "355");
        Check.dueCounts("blocked ones are marked too", x, 0, 0, 0, 2, 3);
        x.build(2);
        Check.dueCounts("those taken alone", x, 0, 0, 0, 1, 0);
    }

    /** The first record of step 1 is old, but step 0 is up to date before the build. */
    private static void aChangedPartAloneMarksNobody() {
        EarlyCut x = chain(-1L);
        x.set(0, true, 2L);
        Check.due("the root alone", x.build(1), 1);
        Check.due("then its users", x.build(4), 2);
        Check.dueStates("then its users", x, "122");
        Check.dueCauses("then its users", x, "-33");
        Check.dueCounts("then its users", x, 0, 0, 0, 0, 0);
    }

    private static void countsAreOfTheLatestBuild() {
        EarlyCut x = chain(0L);
        x.set(0, true, 2L);
        x.build(4);
        x.set(0, true, 3L);
        Check.dueCounts("set changes no count", x, 2, 0, 1, 0, 3);
        x.build(0);
        Check.dueCounts("a build of nothing", x, 0, 0, 0, 0, 0);
    }

    private static void total() {
        EarlyCut x = chain(-1L);
        x.force(0);
        x.build(4);
        x.set(0, true, 2L);
        x.build(4);
        x.set(0, false, 0L);
        x.build(4);
        x.set(0, true, 2L);
        x.build(4);
        Check.due("total(0)", x.total(0), 3);
        Check.due("total(1)", x.total(1), 1);
        Check.due("total(2), those that failed too", x.total(2), 2);
        Check.due("total(3)", x.total(3), 2);
    }

    private static void share() {
        EarlyCut x = new EarlyCut();
        x.step(-1L, 0L);
        Check.dueThrow("none was done", () -> x.share(), ArithmeticException.class);
        x.build(0);
        Check.dueThrow("none was taken", () -> x.share(), ArithmeticException.class);
        x.build(1);
        Check.due("none of one", x.share(), 0);
        x.force(0);
        x.build(1);
        x.force(0);
        x.build(1);
        Check.due("two of three", x.share(), 666);
        for (int n = 0; n < 100; n++) {
            x.force(0);
            x.build(1);
        }
        Check.due("102 of 103", x.share(), 990);
        x.step(-1L, 17L);
        x.build(2);
        Check.due("one that failed is done", x.share(), 980);
    }
}
