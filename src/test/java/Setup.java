/** Objects that tests begin with, and numbers that are no FILE, STEP, RECORD or READ. */
final class Setup {
    static final int[] TOO_SMALL = {-1, -2, -16, -17, -32, Integer.MIN_VALUE};
    /** Beyond every bound, those among them that shifts and masks would take for 0. */
    static final int[] TOO_LARGE = {16, 17, 31, 32, 48, 64, 256, 65536, 1 << 30, Integer.MAX_VALUE};

    private Setup() {
    }

    /** Numbers that are none where 0 to count - 1 are: too small, just past the last, far too large. */
    static int[] wrongNumbers(int count) {
        int[] wrong = new int[TOO_SMALL.length + 1 + TOO_LARGE.length];
        System.arraycopy(TOO_SMALL, 0, wrong, 0, TOO_SMALL.length);
        wrong[TOO_SMALL.length] = count;
        System.arraycopy(TOO_LARGE, 0, wrong, TOO_SMALL.length + 1, TOO_LARGE.length);
        return wrong;
    }

    /** FILE n has CONTENT n; the STEPS have all bits in their MASK, never fail by themselves, and read nothing. */
    static EarlyCut filesAndSteps(int files, int steps) {
        EarlyCut x = new EarlyCut();
        for (int n = 0; n < files; n++) {
            x.file(n);
        }
        for (int n = 0; n < steps; n++) {
            x.step(-1L, 0L);
        }
        return x;
    }

    /** STEP 0 reads FILE 0, with CONTENT 1: its BODY is 527 and the CONTENT. */
    static EarlyCut oneFileOneStep(long mask, long modulus) {
        EarlyCut x = new EarlyCut();
        x.file(1L);
        x.step(mask, modulus);
        x.readsFile(0, 0);
        return x;
    }

    /** STEP 0 reads FILE 0, with CONTENT 1; each other one the BODY of the one before. */
    static EarlyCut chain(int steps) {
        EarlyCut x = new EarlyCut();
        x.file(1L);
        for (int n = 0; n < steps; n++) {
            x.step(-1L, 0L);
        }
        x.readsFile(0, 0);
        for (int n = 1; n < steps; n++) {
            x.readsPart(n, n - 1, 1);
        }
        return x;
    }

    /** All STEPS read FILES 0 and 1, so that (n, -31 n) gives each of them the same OUTPUT for every n. */
    static EarlyCut sameOutputForAll(int steps) {
        EarlyCut x = filesAndSteps(2, steps);
        for (int n = 0; n < steps; n++) {
            x.readsFile(n, 0);
            x.readsFile(n, 1);
        }
        return x;
    }

    static int buildSameOutput(EarlyCut x, long n) {
        x.set(0, true, n);
        x.set(1, true, -31L * n);
        return x.build(-1);
    }

    static int buildWith(EarlyCut x, long content) {
        x.set(0, true, content);
        return x.build(-1);
    }

    static int buildWithout(EarlyCut x) {
        x.set(0, false, 0L);
        return x.build(-1);
    }
}
