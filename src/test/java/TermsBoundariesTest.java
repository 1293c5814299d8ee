import java.math.BigInteger;

/** The bounds that 'What it is' and 'Terms' name, one test for each. */
public final class TermsBoundariesTest {
    public static void main(String[] args) {
        Check.runAll(TermsBoundariesTest.class);
    }

    private static void whatItIs_the512thCallIsAnsweredAfterTheDearestOnes() {
        EarlyCut x = Setup.chain(16);
        int calls = 1 + 16 + 16;
        for (int n = 1; n <= 239; n++) {
            Check.due("build " + n, Setup.buildWith(x, n), 16);
            calls += 2;
        }
        Check.due("calls before the last", calls, 511);
        Check.due("the 512th call: total(3)", x.total(3), 238 * 15);
    }

    private static void whatItIs_the512thCallIsAnsweredAfterTouches() {
        EarlyCut x = new EarlyCut();
        x.file(0L);
        for (int n = 1; n <= 511; n++) {
            Check.due("touch " + n, x.touch(0), n);
        }
    }

    private static void whatItIs_the512thCallIsAnsweredAfterMostCuts() {
        EarlyCut x = Setup.sameOutputForAll(16);
        int calls = 2 + 16 + 32;
        for (int n = 1; n <= 153; n++) {
            Setup.buildSameOutput(x, n);
            calls += 3;
        }
        x.build(0);
        x.build(0);
        Check.due("calls before the last", calls + 2, 511);
        Check.due("the 512th call: share()", x.share(), 1000 * 152 / 153);
    }

    private static void terms_noneIsMinus1() {
        Check.due("NONE", EarlyCut.NONE, -1);
    }

    private static void terms_atMost16FilesEachReadByItsNumber() {
        EarlyCut x = Setup.filesAndSteps(16, 3);
        Check.due("a 17th file", x.file(99L), -1);
        for (int n = 0; n < 16; n++) {
            x.readsFile(n / 6, n);
        }
        Check.due("build", x.build(-1), 3);
        for (int n = 0; n < 16; n++) {
            Check.due("content of file " + n, x.record(n / 6, 0, n % 6), n);
        }
    }

    private static void terms_atMost16StepsEachBuiltByItsNumber() {
        EarlyCut x = new EarlyCut();
        for (int n = 0; n < 16; n++) {
            x.step(1L << n, 0L);
        }
        Check.due("a 17th step", x.step(0L, 0L), -1);
        for (int n = 0; n < 16; n++) {
            Check.due("build of step " + n, x.build(1 << n), 1);
            Check.due("face of step " + n, x.output(n, 0), 17L & (1L << n));
        }
    }

    private static void terms_contentHas64Bits() {
        EarlyCut x = Setup.oneFileOneStep(-1L, 0L);
        long[] contents = {Long.MIN_VALUE, Long.MAX_VALUE, -1L, 1L << 32, 0L};
        for (long content : contents) {
            Check.due("build with " + content, Setup.buildWith(x, content), 1);
            Check.due("record of " + content, x.record(0, 0, 0), content);
        }
    }

    private static void terms_contentsThatDifferInTheUpperBitsAloneAreOther() {
        EarlyCut x = Setup.oneFileOneStep(-1L, 0L);
        Setup.buildWith(x, 5L);
        Check.due("bit 32", Setup.buildWith(x, 5L + (1L << 32)), 1);
        Check.due("bit 63", Setup.buildWith(x, 5L + Long.MIN_VALUE), 1);
    }

    private static void terms_noReadsAtAllGive17() {
        EarlyCut x = Setup.filesAndSteps(0, 1);
        Check.due("build", x.build(1), 1);
        Check.due("body", x.output(0, 1), 17L);
        Check.due("build again", x.build(1), 0);
        Check.due("state", x.state(0), 1);
    }

    private static void terms_atMost6ReadsFilesAndPartsTogether() {
        EarlyCut x = Setup.filesAndSteps(4, 3);
        for (int n = 0; n < 3; n++) {
            Check.due("file " + n, x.readsFile(2, n), true);
            Check.due("part " + n, x.readsPart(2, n / 2, n % 2), true);
        }
        Check.due("a file as the 7th", x.readsFile(2, 3), false);
        Check.due("a part as the 7th", x.readsPart(2, 1, 1), false);
        x.build(4);
        long sum = 17L;
        for (long value : new long[] {0L, 17L, 1L, 17L, 2L, 17L}) {
            sum = 31L * sum + value;
        }
        Check.due("body of six", x.output(2, 1), sum);
    }

    private static void terms_readsCountInTheirOrder() {
        EarlyCut x = Setup.filesAndSteps(3, 2);
        x.readsFile(0, 2);
        x.readsFile(0, 1);
        x.readsFile(1, 1);
        x.readsFile(1, 2);
        x.build(3);
        Check.due("2, then 1", x.output(0, 1), 31L * (31L * 17L + 2L) + 1L);
        Check.due("1, then 2", x.output(1, 1), 31L * (31L * 17L + 1L) + 2L);
    }

    private static void terms_eachReadOnceButFaceAndBodyAreTwo() {
        EarlyCut x = Setup.filesAndSteps(1, 2);
        Check.due("file 0", x.readsFile(1, 0), true);
        Check.due("face 0", x.readsPart(1, 0, 0), true);
        Check.due("body 0", x.readsPart(1, 0, 1), true);
        Check.due("file 0 again", x.readsFile(1, 0), false);
        Check.due("face 0 again", x.readsPart(1, 0, 0), false);
        Check.due("body 0 again", x.readsPart(1, 0, 1), false);
    }

    private static void terms_partsAreOfStepsWithLesserNumbersAlone() {
        EarlyCut x = Setup.filesAndSteps(0, 16);
        for (int step = 0; step < 16; step++) {
            for (int other = 15; other >= step; other--) {
                Check.due("of " + other + " by " + step, x.readsPart(step, other, 0), false);
            }
            if (step > 0) {
                Check.due("of the one before " + step, x.readsPart(step, step - 1, 1), true);
            }
        }
    }

    private static void terms_sumIsModulo2ToThe64() {
        EarlyCut x = Setup.filesAndSteps(2, 1);
        x.readsFile(0, 0);
        x.readsFile(0, 1);
        Setup.buildWith(x, Long.MAX_VALUE);
        BigInteger sum = BigInteger.valueOf(31 * 17).add(BigInteger.valueOf(Long.MAX_VALUE))
            .multiply(BigInteger.valueOf(31)).add(BigInteger.ONE);
        Check.due("the greatest content", x.output(0, 1), sum.longValue());
        Setup.buildWith(x, Long.MAX_VALUE - 526L);
        Check.due("just past the greatest sum", x.output(0, 1), 31L * Long.MIN_VALUE + 1L);
        Setup.buildWith(x, Long.MIN_VALUE);
        Check.due("the least content", x.output(0, 1), 31L * (527L + Long.MIN_VALUE) + 1L);
    }

    private static void terms_sumWrapsFromTheGreatestToTheLeast() {
        EarlyCut x = Setup.oneFileOneStep(-1L, 0L);
        Setup.buildWith(x, Long.MAX_VALUE - 527L);
        Check.due("the greatest", x.output(0, 1), Long.MAX_VALUE);
        Setup.buildWith(x, Long.MAX_VALUE - 526L);
        Check.due("one more", x.output(0, 1), Long.MIN_VALUE);
        Setup.buildWith(x, Long.MIN_VALUE);
        Check.due("the least content", x.output(0, 1), Long.MIN_VALUE + 527L);
    }

    private static void terms_maskOfNoBitsOfAllAndOfTheHighest() {
        EarlyCut x = new EarlyCut();
        x.file(-528L);
        long[] masks = {0L, -1L, Long.MIN_VALUE, 1L};
        for (int n = 0; n < masks.length; n++) {
            x.step(masks[n], 0L);
            x.readsFile(n, 0);
        }
        x.build(-1);
        for (int n = 0; n < masks.length; n++) {
            Check.due("body of step " + n, x.output(n, 1), -1L);
            Check.due("face of step " + n, x.output(n, 0), masks[n]);
        }
    }

    private static void terms_modulus0NeverFails() {
        EarlyCut x = Setup.oneFileOneStep(-1L, 0L);
        for (long body : new long[] {0L, 1L, -1L, Long.MIN_VALUE, Long.MAX_VALUE}) {
            Setup.buildWith(x, body - 527L);
            Check.due("state with body " + body, x.state(0), 2);
            Check.due("body", x.output(0, 1), body);
        }
    }

    private static void terms_modulus1AlwaysFails() {
        EarlyCut x = Setup.oneFileOneStep(-1L, 1L);
        for (long body : new long[] {0L, 1L, -1L, Long.MIN_VALUE, Long.MAX_VALUE}) {
            Setup.buildWith(x, body - 527L);
            Check.due("state with body " + body, x.state(0), 3);
            Check.due("by itself", x.failed(0, 0), 6);
        }
    }

    private static void terms_body0IsAMultipleOfEveryModulusBut0() {
        for (long modulus : new long[] {1L, 2L, 1000L, Long.MAX_VALUE}) {
            EarlyCut x = Setup.oneFileOneStep(-1L, modulus);
            Setup.buildWith(x, -527L);
            Check.due("state with modulus " + modulus, x.state(0), 3);
        }
    }

    /** Without its sign, -1 would be a multiple of 3 (2 to the 64 less 1), and -3 would be none. */
    private static void terms_bodyIsANumberWithSign() {
        EarlyCut x = Setup.oneFileOneStep(-1L, 3L);
        Setup.buildWith(x, -1L - 527L);
        Check.due("-1 is no multiple of 3", x.state(0), 2);
        Setup.buildWith(x, -3L - 527L);
        Check.due("-3 is one", x.state(0), 3);
        Setup.buildWith(x, 3L - 527L);
        Check.due("3 is one", x.state(0), 3);
        Setup.buildWith(x, 2L - 527L);
        Check.due("2 is none", x.state(0), 2);
    }

    private static void terms_leastBodyAndGreatestModulus() {
        EarlyCut x = Setup.oneFileOneStep(-1L, Long.MAX_VALUE);
        Setup.buildWith(x, Long.MIN_VALUE - 527L);
        Check.due("the least body", x.state(0), 2);
        Setup.buildWith(x, Long.MIN_VALUE + 1L - 527L);
        Check.due("the modulus with another sign", x.state(0), 3);
        Setup.buildWith(x, Long.MAX_VALUE - 527L);
        Check.due("the modulus", x.state(0), 3);
        Setup.buildWith(x, Long.MAX_VALUE - 1L - 527L);
        Check.due("one less", x.state(0), 2);
    }

    private static void terms_aFileThatIsntThereFailsBeforeTheModulusDoes() {
        EarlyCut x = Setup.oneFileOneStep(-1L, 1L);
        Setup.buildWithout(x);
        Check.due("state", x.state(0), 3);
        Check.due("by the file", x.failed(0, 0), 0);
    }

    private static void terms_aFileThatIsntThereFailsWhateverTheModulus() {
        EarlyCut x = Setup.oneFileOneStep(-1L, 0L);
        Setup.buildWithout(x);
        Check.due("modulus 0", x.state(0), 3);
        EarlyCut y = Setup.oneFileOneStep(-1L, Long.MAX_VALUE);
        Setup.buildWithout(y);
        Check.due("the greatest modulus", y.state(0), 3);
    }

    private static void terms_atMost3RecordsTheLastOfFourGoes() {
        EarlyCut x = Setup.oneFileOneStep(-1L, 0L);
        for (int content = 1; content <= 4; content++) {
            Setup.buildWith(x, content);
        }
        Check.due("records", x.records(0), 3);
        dueContents(x, 4L, 3L, 2L);
        Check.due("the last that stayed", Setup.buildWith(x, 2L), 0);
        Check.due("the one that went", Setup.buildWith(x, 1L), 1);
        dueContents(x, 1L, 2L, 4L);
    }

    private static void terms_theRecordUsedLastIsFirst() {
        EarlyCut x = Setup.oneFileOneStep(-1L, 0L);
        Setup.buildWith(x, 1L);
        Setup.buildWith(x, 2L);
        Setup.buildWith(x, 3L);
        Setup.buildWith(x, 1L);
        dueContents(x, 1L, 3L, 2L);
        Setup.buildWith(x, 4L);
        dueContents(x, 4L, 1L, 3L);
    }

    private static void terms_aRecordWithTheSameReadsIsReplacedAndNoneGoes() {
        for (int place = 0; place < 3; place++) {
            EarlyCut x = Setup.oneFileOneStep(-1L, 0L);
            Setup.buildWith(x, 3L);
            Setup.buildWith(x, 2L);
            Setup.buildWith(x, 1L);
            x.force(0);
            Check.due("forced with the reads at " + place, Setup.buildWith(x, 1L + place), 1);
            Check.due("records", x.records(0), 3);
            Check.due("the first", x.record(0, 0, 0), 1L + place);
            Check.due("the second", x.record(0, 1, 0), place == 0 ? 2L : 1L);
            Check.due("the third", x.record(0, 2, 0), place == 2 ? 2L : 3L);
        }
    }

    private static void terms_aFileThatWasntThereIsAnotherReadThanContent0() {
        EarlyCut x = Setup.oneFileOneStep(-1L, 0L);
        Setup.buildWith(x, 0L);
        Check.due("not there", Setup.buildWithout(x), 1);
        Check.due("records", x.records(0), 2);
        Check.due("content 0 again", Setup.buildWith(x, 0L), 0);
        Check.due("restored", x.state(0), 6);
        Check.due("not there again", Setup.buildWithout(x), 0);
        Check.due("still", x.state(0), 4);
    }

    private static void terms_allSixReadsMustBeAsTheyAre() {
        for (int other = 0; other < 6; other++) {
            EarlyCut x = Setup.filesAndSteps(6, 1);
            for (int n = 0; n < 6; n++) {
                x.readsFile(0, n);
            }
            x.build(1);
            x.set(other, true, 99L);
            Check.due("read " + other + " is other", x.build(1), 1);
            x.set(other, false, 0L);
            Check.due("read " + other + " isn't there", x.build(1), 1);
            x.set(other, true, other);
            Check.due("read " + other + " as it was", x.build(1), 0);
            Check.due("restored", x.state(0), 6);
        }
    }

    private static void dueContents(EarlyCut x, long... want) {
        for (int k = 0; k < want.length; k++) {
            Check.due("record " + k, x.record(0, k, 0), want[k]);
        }
    }
}
