/**
 * Steps of a build that are redone as little as may be.
 *
 * A step is redone by what it read, part by part, never by times. Each step keeps its last three
 * records (what it read, and what came of it), so that reads that come again give back their outcome.
 */
public final class EarlyCut {
    public static final int NONE = -1;

    private static final int MOST_FILES = 16;
    private static final int MOST_STEPS = 16;
    private static final int MOST_READS = 6;
    private static final int MOST_RECORDS = 3;

    private static final int FACE = 0;
    private static final int BODY = 1;
    private static final int PARTS = 2;

    private static final int NOT_TAKEN = 0;
    private static final int CLEAN = 1;
    private static final int REDONE = 2;
    private static final int FAILED = 3;
    private static final int STILL = 4;
    private static final int BLOCKED = 5;
    private static final int RESTORED = 6;

    private static final int BY_NEW = 0;
    private static final int BY_FORCE = 1;
    private static final int BY_FILE = 2;
    private static final int BY_PART = 3;
    private static final int CAUSES = 4;

    private static final int COUNT_SAVED = 0;
    private static final int COUNT_CUT = 1;
    private static final int COUNT_HALF = 2;
    private static final int COUNT_BLOCKED = 3;
    private static final int COUNT_MARKED = 4;
    private static final int COUNTS = 5;

    private static final int FAILED_BY_ITSELF = 6;

    private final Source[] allFiles = new Source[MOST_FILES];
    private int fileCount = 0;
    private final Step[] allSteps = new Step[MOST_STEPS];
    private int stepCount = 0;
    private final int[] latestCounts = new int[COUNTS];
    private final int[] doneByCause = new int[CAUSES];
    private int cutOfDone = 0;

    public EarlyCut() {
    }

    public int file(long content) {
        if (fileCount >= MOST_FILES) {
            return NONE;
        }
        allFiles[fileCount] = new Source(content);
        fileCount++;
        return fileCount - 1;
    }

    public boolean set(int file, boolean there, long content) {
        Source source = sourceAt(file);
        if (source == null) {
            return false;
        }
        source.there = there;
        // A content told for a file that isn't there must never be read.
        source.content = there ? content : 0L;
        return true;
    }

    public int touch(int file) {
        Source source = sourceAt(file);
        if (source == null) {
            return NONE;
        }
        source.touches++;
        return source.touches;
    }

    public int step(long mask, long modulus) {
        if (stepCount >= MOST_STEPS || modulus < 0L) {
            return NONE;
        }
        allSteps[stepCount] = new Step(mask, modulus);
        stepCount++;
        return stepCount - 1;
    }

    public boolean readsFile(int step, int file) {
        Step reader = stepAt(step);
        if (reader == null || sourceAt(file) == null) {
            return false;
        }
        return reader.addRead(codeOfFile(file));
    }

    public boolean readsPart(int step, int other, int part) {
        Step reader = stepAt(step);
        if (reader == null || stepAt(other) == null || !isPart(part) || other >= step) {
            return false;
        }
        return reader.addRead(codeOfPart(other, part));
    }

    public boolean force(int step) {
        Step forced = stepAt(step);
        if (forced == null || forced.forced) {
            return false;
        }
        forced.forced = true;
        return true;
    }

    public int build(int steps) {
        forgetLatestBuild();
        takeNeeded(steps);
        int done = 0;
        for (int n = 0; n < stepCount; n++) {
            Step step = allSteps[n];
            if (step.taken) {
                buildOne(step);
                if (step.latestCause != NONE) {
                    done++;
                }
            }
        }
        return done;
    }

    public int state(int step) {
        Step asked = stepAt(step);
        return asked == null ? NOT_TAKEN : asked.latestState;
    }

    public int cause(int step) {
        Step asked = stepAt(step);
        return asked == null ? NONE : asked.latestCause;
    }

    public int counted(int what) {
        if (what < 0 || what >= COUNTS) {
            return NONE;
        }
        return latestCounts[what];
    }

    public long output(int step, int part) throws IllegalArgumentException, IllegalStateException {
        Step asked = stepAt(step);
        if (asked == null || !isPart(part)) {
            throw new IllegalArgumentException("no such step or part");
        }
        Entry first = asked.entryAt(0);
        if (first == null || first.hasFailed()) {
            throw new IllegalStateException("the step has no output");
        }
        return first.partOfOutput(part);
    }

    public int records(int step) {
        Step asked = stepAt(step);
        return asked == null ? 0 : asked.entryCount;
    }

    public long record(int step, int k, int i) {
        Step asked = stepAt(step);
        if (asked == null || i < 0 || i >= asked.readCount) {
            return 0L;
        }
        Entry entry = asked.entryAt(k);
        return entry == null ? 0L : entry.values[i];
    }

    public int failed(int step, int k) {
        Step asked = stepAt(step);
        if (asked == null) {
            return NONE;
        }
        Entry entry = asked.entryAt(k);
        return entry == null ? NONE : entry.failure;
    }

    public int total(int cause) {
        if (cause < 0 || cause >= CAUSES) {
            return NONE;
        }
        return doneByCause[cause];
    }

    public int share() throws ArithmeticException {
        int done = 0;
        for (int c = 0; c < CAUSES; c++) {
            done += doneByCause[c];
        }
        if (done == 0) {
            throw new ArithmeticException("no step was done");
        }
        return 1000 * cutOfDone / done;
    }

    private Source sourceAt(int number) {
        return number >= 0 && number < fileCount ? allFiles[number] : null;
    }

    private Step stepAt(int number) {
        return number >= 0 && number < stepCount ? allSteps[number] : null;
    }

    private static boolean isPart(int part) {
        return part == FACE || part == BODY;
    }

    // A read is one number: files first, then the parts of steps, so that two reads are the same
    // thing exactly if their numbers are.
    private static int codeOfFile(int file) {
        return file;
    }

    private static int codeOfPart(int step, int part) {
        return MOST_FILES + PARTS * step + part;
    }

    private static boolean isFileCode(int code) {
        return code < MOST_FILES;
    }

    private Step stepOfCode(int code) {
        return stepAt((code - MOST_FILES) / PARTS);
    }

    private static int partOfCode(int code) {
        return (code - MOST_FILES) % PARTS;
    }

    private void forgetLatestBuild() {
        for (int n = 0; n < stepCount; n++) {
            allSteps[n].forgetLatestBuild();
        }
        for (int c = 0; c < COUNTS; c++) {
            latestCounts[c] = 0;
        }
    }

    private void takeNeeded(int bits) {
        // Steps read lesser numbers alone, so going down meets each step after all that read it.
        for (int n = stepCount - 1; n >= 0; n--) {
            Step step = allSteps[n];
            if (((bits >>> n) & 1) != 0) {
                step.taken = true;
            }
            if (step.taken) {
                takeStepsReadBy(step);
            }
        }
    }

    private void takeStepsReadBy(Step step) {
        for (int i = 0; i < step.readCount; i++) {
            if (!isFileCode(step.reads[i])) {
                Step read = stepOfCode(step.reads[i]);
                if (read != null) {
                    read.taken = true;
                }
            }
        }
    }

    private void buildOne(Step step) {
        step.marked = isMarked(step);
        if (step.marked) {
            latestCounts[COUNT_MARKED]++;
        }
        if (isBlocked(step)) {
            step.latestState = BLOCKED;
            latestCounts[COUNT_BLOCKED]++;
            return;
        }
        bringUpToDate(step);
        if (step.marked && step.latestCause == NONE) {
            latestCounts[COUNT_SAVED]++;
        }
    }

    private boolean isMarked(Step step) {
        Entry first = step.entryAt(0);
        if (first == null || step.forced) {
            return true;
        }
        for (int i = 0; i < step.readCount; i++) {
            if (marksItsReader(step.reads[i], first, i)) {
                return true;
            }
        }
        return false;
    }

    // A part marks by its step alone: whether its value is another one isn't known before the build.
    private boolean marksItsReader(int code, Entry first, int place) {
        if (isFileCode(code)) {
            return first.differsAt(place, isThereNow(code), valueNow(code));
        }
        Step read = stepOfCode(code);
        return read != null && read.marked;
    }

    private boolean isBlocked(Step step) {
        for (int i = 0; i < step.readCount; i++) {
            if (!isFileCode(step.reads[i])) {
                Step read = stepOfCode(step.reads[i]);
                if (read != null && read.isWithoutOutput()) {
                    return true;
                }
            }
        }
        return false;
    }

    private void bringUpToDate(Step step) {
        Entry before = step.entryAt(0);
        Entry now = readNow(step);
        int same = step.placeOfSameReads(now);
        if (same != NONE && !step.forced) {
            step.reuse(same);
        } else {
            int why = causeToRedo(step, now);
            step.redo(same);
            step.latestCause = why;
            doneByCause[why]++;
        }
        // The entry that was first still holds what it held: at most it became the spare one.
        compareOutputs(before, step);
    }

    private Entry readNow(Step step) {
        Entry now = step.spareEntry();
        for (int i = 0; i < step.readCount; i++) {
            now.there[i] = isThereNow(step.reads[i]);
            now.values[i] = valueNow(step.reads[i]);
        }
        return now;
    }

    private boolean isThereNow(int code) {
        if (!isFileCode(code)) {
            return true;
        }
        Source source = sourceAt(code);
        return source != null && source.there;
    }

    private long valueNow(int code) {
        if (isFileCode(code)) {
            Source source = sourceAt(code);
            return source == null ? 0L : source.content;
        }
        Step read = stepOfCode(code);
        Entry first = read == null ? null : read.entryAt(0);
        return first == null ? 0L : first.partOfOutput(partOfCode(code));
    }

    private static int causeToRedo(Step step, Entry now) {
        Entry first = step.entryAt(0);
        if (first == null) {
            return BY_NEW;
        }
        int place = first.firstDifference(now, step.readCount);
        // Without a difference nothing but force can have it redone.
        if (step.forced || place == NONE) {
            return BY_FORCE;
        }
        return isFileCode(step.reads[place]) ? BY_FILE : BY_PART;
    }

    private void compareOutputs(Entry before, Step step) {
        boolean isOther = step.latestState == REDONE || step.latestState == RESTORED;
        Entry after = step.entryAt(0);
        if (!isOther || before == null || before.hasFailed() || after == null) {
            return;
        }
        // The face follows from the body, so bodies that are the same are whole outputs that are.
        if (after.body == before.body) {
            latestCounts[COUNT_CUT]++;
            if (step.latestState == REDONE) {
                cutOfDone++;
            }
        } else if (after.face == before.face) {
            latestCounts[COUNT_HALF]++;
        }
    }

    /** A FILE. */
    private static final class Source {
        boolean there = true;
        long content;
        int touches = 0;

        Source(long content) {
            this.content = content;
        }
    }

    /** A RECORD: what each READ was, and what came of it. */
    private static final class Entry {
        final boolean[] there = new boolean[MOST_READS];
        final long[] values = new long[MOST_READS];
        int failure = NONE;
        long face = 0L;
        long body = 0L;

        boolean hasFailed() {
            return failure != NONE;
        }

        long partOfOutput(int part) {
            return part == FACE ? face : body;
        }

        boolean differsAt(int place, boolean isThere, long value) {
            return there[place] != isThere || values[place] != value;
        }

        int firstDifference(Entry other, int readCount) {
            for (int i = 0; i < readCount; i++) {
                if (differsAt(i, other.there[i], other.values[i])) {
                    return i;
                }
            }
            return NONE;
        }

        int firstMissing(int readCount) {
            for (int i = 0; i < readCount; i++) {
                if (!there[i]) {
                    return i;
                }
            }
            return NONE;
        }
    }

    /** A STEP, its RECORDS, and what it was by the latest BUILD. */
    private static final class Step {
        final long mask;
        final long modulus;
        final int[] reads = new int[MOST_READS];
        int readCount = 0;
        // One entry more than are kept takes what is read now, so that no build makes objects.
        final Entry[] entries = new Entry[MOST_RECORDS + 1];
        int entryCount = 0;
        boolean forced = false;
        boolean taken = false;
        boolean marked = false;
        int latestState = NOT_TAKEN;
        int latestCause = NONE;

        Step(long mask, long modulus) {
            this.mask = mask;
            this.modulus = modulus;
            for (int k = 0; k <= MOST_RECORDS; k++) {
                entries[k] = new Entry();
            }
        }

        Entry entryAt(int k) {
            return k >= 0 && k < entryCount ? entries[k] : null;
        }

        Entry spareEntry() {
            return entries[MOST_RECORDS];
        }

        boolean addRead(int code) {
            if (readCount >= MOST_READS || hasRead(code)) {
                return false;
            }
            reads[readCount] = code;
            readCount++;
            entryCount = 0;
            return true;
        }

        boolean hasRead(int code) {
            for (int i = 0; i < readCount; i++) {
                if (reads[i] == code) {
                    return true;
                }
            }
            return false;
        }

        void forgetLatestBuild() {
            taken = false;
            marked = false;
            latestState = NOT_TAKEN;
            latestCause = NONE;
        }

        boolean isWithoutOutput() {
            return latestState == FAILED || latestState == STILL || latestState == BLOCKED;
        }

        int placeOfSameReads(Entry now) {
            for (int k = 0; k < entryCount; k++) {
                if (entries[k].firstDifference(now, readCount) == NONE) {
                    return k;
                }
            }
            return NONE;
        }

        void reuse(int place) {
            bringFirst(place);
            if (entries[0].hasFailed()) {
                latestState = STILL;
            } else {
                latestState = place == 0 ? CLEAN : RESTORED;
            }
        }

        void redo(int same) {
            Entry fresh = spareEntry();
            fillOutcome(fresh);
            if (same == NONE) {
                bringFirst(MOST_RECORDS);
                entryCount = Math.min(entryCount + 1, MOST_RECORDS);
            } else {
                entries[MOST_RECORDS] = entries[same];
                entries[same] = fresh;
                bringFirst(same);
            }
            // Being done is what was forced, whichever cause is told.
            forced = false;
            latestState = fresh.hasFailed() ? FAILED : REDONE;
        }

        void fillOutcome(Entry entry) {
            long sum = 17L;
            for (int i = 0; i < readCount; i++) {
                sum = 31L * sum + entry.values[i];
            }
            entry.body = sum;
            entry.face = sum & mask;
            entry.failure = entry.firstMissing(readCount);
            if (entry.failure == NONE && modulus != 0L && sum % modulus == 0L) {
                entry.failure = FAILED_BY_ITSELF;
            }
        }

        void bringFirst(int place) {
            Entry moved = entries[place];
            for (int k = place; k > 0; k--) {
                entries[k] = entries[k - 1];
            }
            entries[0] = moved;
        }
    }
}
