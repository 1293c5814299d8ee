/** Promises 13 to 16: output, records, record, failed. */
public final class RecordsTest {
    public static void main(String[] args) {
        Check.runAll(RecordsTest.class);
    }

    private static void output() {
        EarlyCut x = Setup.oneFileOneStep(0xF0L, 4L);
        for (int number : new int[] {Integer.MIN_VALUE, -1, 1, 15, 16, Integer.MAX_VALUE}) {
            Check.dueThrow("output(" + number + ", 0)", () -> x.output(number, 0), IllegalArgumentException.class);
        }
        for (int part : new int[] {Integer.MIN_VALUE, -1, 2, Integer.MAX_VALUE}) {
            Check.dueThrow("output(0, " + part + ")", () -> x.output(0, part), IllegalArgumentException.class);
        }
        Check.dueThrow("without a record", () -> x.output(0, 0), IllegalStateException.class);
        Check.dueThrow("without a record", () -> x.output(0, 1), IllegalStateException.class);
        Setup.buildWith(x, 1L);
        Check.dueThrow("failed", () -> x.output(0, 0), IllegalStateException.class);
        Check.dueThrow("failed, no such part", () -> x.output(0, 2), IllegalArgumentException.class);
        Setup.buildWith(x, 2L);
        Check.due("face", x.output(0, 0), 529L & 0xF0L);
        Check.due("body", x.output(0, 1), 529L);
        Check.dueThrow("no such part", () -> x.output(0, 2), IllegalArgumentException.class);
        x.set(0, true, 3L);
        Check.due("as built, not as it would be", x.output(0, 1), 529L);
        x.set(0, false, 0L);
        x.build(1);
        Check.dueThrow("failed by a file", () -> x.output(0, 1), IllegalStateException.class);
    }

    private static void outputIsOfTheFirstRecord() {
        EarlyCut x = Setup.oneFileOneStep(-1L, 4L);
        Setup.buildWith(x, 2L);
        Setup.buildWith(x, 3L);
        Check.due("the second", x.output(0, 1), 530L);
        Setup.buildWith(x, 2L);
        Check.due("the first, restored", x.output(0, 1), 529L);
        Setup.buildWith(x, 1L);
        Setup.buildWith(x, 2L);
        Check.due("restored after a failure", x.output(0, 1), 529L);
        Setup.buildWith(x, 1L);
        Check.dueThrow("a failure restored", () -> x.output(0, 1), IllegalStateException.class);
    }

    private static void records() {
        EarlyCut x = Setup.oneFileOneStep(-1L, 0L);
        Check.due("none", x.records(0), 0);
        for (int n = 1; n <= 5; n++) {
            Setup.buildWith(x, n);
            Check.due("after " + n, x.records(0), Math.min(n, 3));
        }
        Setup.buildWith(x, 4L);
        Check.due("restored", x.records(0), 3);
        for (int number : new int[] {Integer.MIN_VALUE, -1, 1, 15, 16, Integer.MAX_VALUE}) {
            Check.due("records(" + number + ")", x.records(number), 0);
        }
        x.file(0L);
        x.readsFile(0, 1);
        Check.due("gone", x.records(0), 0);
    }

    private static void dueOrder(String when, EarlyCut x, long... want) {
        Check.due(when + ": records", x.records(0), want.length);
        for (int k = 0; k < want.length; k++) {
            Check.due(when + ": record " + k, x.record(0, k, 0), want[k]);
        }
    }

    private static void order() {
        EarlyCut x = Setup.oneFileOneStep(-1L, 4L);
        Setup.buildWith(x, 1L);
        Setup.buildWith(x, 2L);
        dueOrder("two", x, 2L, 1L);
        Setup.buildWith(x, 3L);
        dueOrder("three", x, 3L, 2L, 1L);
        Setup.buildWith(x, 3L);
        dueOrder("clean", x, 3L, 2L, 1L);
        Setup.buildWith(x, 2L);
        dueOrder("the middle restored", x, 2L, 3L, 1L);
        Setup.buildWith(x, 1L);
        dueOrder("the last, a failure", x, 1L, 2L, 3L);
        Setup.buildWith(x, 4L);
        dueOrder("a fourth", x, 4L, 1L, 2L);
        Check.due("no fourth one", x.record(0, 3, 0), 0L);
    }

    private static void forcedTakesTheSamePlace() {
        EarlyCut x = Setup.oneFileOneStep(-1L, 0L);
        Setup.buildWith(x, 1L);
        Setup.buildWith(x, 2L);
        Setup.buildWith(x, 3L);
        x.force(0);
        Setup.buildWith(x, 3L);
        dueOrder("the first forced", x, 3L, 2L, 1L);
        x.force(0);
        Setup.buildWith(x, 1L);
        dueOrder("the last forced", x, 1L, 3L, 2L);
        Check.due("its output", x.output(0, 1), 528L);
        x.force(0);
        Setup.buildWith(x, 3L);
        dueOrder("the middle forced", x, 3L, 1L, 2L);
        x.force(0);
        Setup.buildWith(x, 4L);
        dueOrder("a fourth forced", x, 4L, 3L, 1L);
    }

    private static void whatWasRead() {
        EarlyCut x = new EarlyCut();
        x.file(Long.MAX_VALUE);
        x.file(8L);
        x.step(7L, 0L);
        x.step(-1L, 0L);
        x.readsFile(1, 1);
        x.readsPart(1, 0, 0);
        x.readsFile(1, 0);
        x.readsPart(1, 0, 1);
        x.build(2);
        Check.due("a file", x.record(1, 0, 0), 8L);
        Check.due("a face", x.record(1, 0, 1), 1L);
        Check.due("another file", x.record(1, 0, 2), Long.MAX_VALUE);
        Check.due("a body", x.record(1, 0, 3), 17L);
        x.set(1, false, 99L);
        x.build(2);
        Check.due("a file that wasn't there", x.record(1, 0, 0), 0L);
        Check.due("what was read behind it", x.record(1, 0, 2), Long.MAX_VALUE);
        Check.due("the part behind it", x.record(1, 0, 3), 17L);
        Check.due("as it was before", x.record(1, 1, 0), 8L);
    }

    private static void failed() {
        EarlyCut x = Setup.oneFileOneStep(-1L, 4L);
        Check.due("without a record", x.failed(0, 0), -1);
        Setup.buildWith(x, 1L);
        Check.due("by itself", x.failed(0, 0), 6);
        Setup.buildWith(x, 2L);
        Check.due("an output", x.failed(0, 0), -1);
        Check.due("by itself, then", x.failed(0, 1), 6);
        x.set(0, false, 1L);
        x.build(1);
        Check.due("by the file", x.failed(0, 0), 0);
        Check.due("an output, then", x.failed(0, 1), -1);
        Check.due("by itself, first", x.failed(0, 2), 6);
        for (int number : new int[] {Integer.MIN_VALUE, -1, 3, 4, 16, Integer.MAX_VALUE}) {
            Check.due("failed(" + number + ", 0)", x.failed(number, 0), -1);
            Check.due("failed(0, " + number + ")", x.failed(0, number), -1);
        }
    }

    private static void failedByTheFirstMissing() {
        EarlyCut x = new EarlyCut();
        for (int n = 0; n < 6; n++) {
            x.file(n);
        }
        x.step(-1L, 1L);
        for (int n = 5; n >= 0; n--) {
            x.readsFile(0, n);
        }
        x.set(0, false, 0L);
        x.build(1);
        Check.due("the place of the read, not the file; not by itself", x.failed(0, 0), 5);
        x.set(3, false, 0L);
        x.build(1);
        Check.due("the first of two", x.failed(0, 0), 2);
        x.set(0, true, 0L);
        x.build(1);
        Check.due("another one missing", x.failed(0, 0), 2);
        Check.due("is another record", x.records(0), 3);
        x.set(3, true, 3L);
        x.build(1);
        Check.due("by itself", x.failed(0, 0), 6);
    }
}
