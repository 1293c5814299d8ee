import java.util.ArrayList;
import java.util.HashSet;
import java.util.List;
import java.util.Objects;
import java.util.Random;
import java.util.Set;

/** Random runs of up to 512 calls, each answer against a plain model written from the document's terms. */
public final class ModelTest {
    private static final int RUNS = 1500;
    private static final long[] CONTENTS = {0L, 1L, 2L, 3L, 31L, -31L, 62L, -527L, Long.MIN_VALUE, Long.MAX_VALUE};
    private static final long[] MASKS = {0L, 1L, ~3L, -1L, -1L, 0xFFL};
    private static final long[] MODULI = {0L, 0L, 0L, 2L, 3L, 5L, 7L, 1L, Long.MAX_VALUE, -1L};

    private record ReadThing(boolean isFile, int number, int part) { }

    /** What each read was (null: it wasn't there), and the failure, or the output. */
    private record Known(List<Long> reads, int failure, long face, long body) { }

    private static final class ModelStep {
        long mask;
        long modulus;
        boolean forced;
        int state;
        int cause = -1;
        final List<ReadThing> reads = new ArrayList<>();
        final List<Known> known = new ArrayList<>();
    }

    private static final class Model {
        final List<Long> files = new ArrayList<>();
        final List<ModelStep> steps = new ArrayList<>();
        final int[] counts = new int[5];
        final int[] totals = new int[4];
        int cut;

        List<Long> readsNow(ModelStep s) {
            List<Long> now = new ArrayList<>();
            for (ReadThing r : s.reads) {
                if (r.isFile) {
                    now.add(files.get(r.number));
                } else {
                    Known k = steps.get(r.number).known.get(0);
                    now.add(r.part == 0 ? k.face : k.body);
                }
            }
            return now;
        }

        Known doIt(ModelStep s, List<Long> now) {
            if (now.contains(null)) {
                return new Known(now, now.indexOf(null), 0L, 0L);
            }
            long sum = 17L;
            for (long value : now) {
                sum = sum * 31L + value;
            }
            boolean fails = s.modulus != 0L && sum % s.modulus == 0L;
            return new Known(now, fails ? 6 : -1, sum & s.mask, sum);
        }

        Set<Integer> taken(int bits) {
            Set<Integer> taken = new HashSet<>();
            for (int n = 0; n < steps.size(); n++) {
                if ((bits & 1 << n) != 0) {
                    addTaken(taken, n);
                }
            }
            return taken;
        }

        void addTaken(Set<Integer> taken, int n) {
            if (taken.add(n)) {
                for (ReadThing r : steps.get(n).reads) {
                    if (!r.isFile) {
                        addTaken(taken, r.number);
                    }
                }
            }
        }

        /** Told whole before anything is built, as the document defines it. */
        Set<Integer> marked(Set<Integer> taken) {
            Set<Integer> marked = new HashSet<>();
            for (int n = 0; n < steps.size(); n++) {
                ModelStep s = steps.get(n);
                boolean is = s.known.isEmpty() || s.forced;
                for (int i = 0; i < s.reads.size() && !is; i++) {
                    ReadThing r = s.reads.get(i);
                    is = r.isFile
                        ? !Objects.equals(files.get(r.number), s.known.get(0).reads.get(i))
                        : marked.contains(r.number);
                }
                if (taken.contains(n) && is) {
                    marked.add(n);
                }
            }
            return marked;
        }

        int build(int bits) {
            for (ModelStep s : steps) {
                s.state = 0;
                s.cause = -1;
            }
            Set<Integer> taken = taken(bits);
            Set<Integer> marked = marked(taken);
            counts[0] = counts[1] = counts[2] = counts[3] = 0;
            counts[4] = marked.size();
            int done = 0;
            for (int n = 0; n < steps.size(); n++) {
                if (taken.contains(n)) {
                    ModelStep s = steps.get(n);
                    buildOne(s);
                    done += s.state == 2 || s.state == 3 ? 1 : 0;
                    boolean spared = s.state == 1 || s.state == 4 || s.state == 6;
                    counts[0] += spared && marked.contains(n) ? 1 : 0;
                    counts[3] += s.state == 5 ? 1 : 0;
                }
            }
            return done;
        }

        void buildOne(ModelStep s) {
            for (ReadThing r : s.reads) {
                if (!r.isFile && List.of(3, 4, 5).contains(steps.get(r.number).state)) {
                    s.state = 5;
                    return;
                }
            }
            List<Long> now = readsNow(s);
            Known before = s.known.isEmpty() ? null : s.known.get(0);
            int at = -1;
            for (int k = 0; k < s.known.size(); k++) {
                at = s.known.get(k).reads.equals(now) ? k : at;
            }
            if (at >= 0 && !s.forced) {
                s.known.add(0, s.known.remove(at));
                s.state = s.known.get(0).failure >= 0 ? 4 : at == 0 ? 1 : 6;
            } else {
                s.cause = causeOf(s, before, now);
                totals[s.cause]++;
                s.forced = false;
                if (at >= 0) {
                    s.known.remove(at);
                }
                s.known.add(0, doIt(s, now));
                if (s.known.size() > 3) {
                    s.known.remove(3);
                }
                s.state = s.known.get(0).failure >= 0 ? 3 : 2;
            }
            compare(s, before, s.known.get(0));
        }

        int causeOf(ModelStep s, Known before, List<Long> now) {
            if (before == null) {
                return 0;
            }
            if (s.forced) {
                return 1;
            }
            int i = 0;
            while (Objects.equals(before.reads.get(i), now.get(i))) {
                i++;
            }
            return s.reads.get(i).isFile ? 2 : 3;
        }

        void compare(ModelStep s, Known before, Known after) {
            if (s.state == 1 || before == null || before.failure >= 0 || after.failure >= 0) {
                return;
            }
            if (before.face == after.face && before.body == after.body) {
                counts[1]++;
                cut += s.state == 2 ? 1 : 0;
            } else if (before.face == after.face) {
                counts[2]++;
            }
        }
    }

    private final Random random;
    private final EarlyCut real = new EarlyCut();
    private final Model model = new Model();
    private final int[] touches = new int[16];
    private final int seed;
    private static final int[] statesSeen = new int[7];
    private static final int[] countsSeen = new int[5];

    private ModelTest(int seed) {
        this.seed = seed;
        this.random = new Random(seed);
    }

    public static void main(String[] args) {
        for (int seed = 0; seed < RUNS && !Check.isWrong(); seed++) {
            new ModelTest(seed).run();
        }
        for (int state = 0; state < 7; state++) {
            Check.due("state " + state + " was met", statesSeen[state] > 100, true);
        }
        for (int what = 0; what < 5; what++) {
            Check.due("count " + what + " was met", countsSeen[what] > 100, true);
        }
        Check.end();
    }

    private void run() {
        int calls = 20 + random.nextInt(200);
        for (int c = 0; c < calls && !Check.isWrong(); c++) {
            change(c);
        }
    }

    private long oneOf(long[] values) {
        return values[random.nextInt(values.length)];
    }

    /** A number that is mostly good, at times just outside, at times far. */
    private int near(int bound) {
        int dice = random.nextInt(40);
        if (dice == 0) {
            return random.nextInt();
        }
        return random.nextInt(bound + 2) - (dice <= 2 ? 1 : 0);
    }

    private void change(int c) {
        int what = random.nextInt(c < 20 ? 8 : 20);
        if (what == 0) {
            changeFile(oneOf(CONTENTS));
        } else if (what == 1) {
            changeStep(oneOf(MASKS), oneOf(MODULI));
        } else if (what <= 3) {
            changeReadsFile(near(model.steps.size()), near(model.files.size()));
        } else if (what <= 5) {
            changeReadsPart(near(model.steps.size()), near(model.steps.size()), near(2));
        } else if (what == 6) {
            changeForce(near(model.steps.size()));
        } else if (what == 7) {
            changeTouch(near(model.files.size()));
        } else if (what <= 13) {
            changeSet(near(model.files.size()), random.nextInt(6) != 0, oneOf(CONTENTS));
        } else {
            changeBuild(random.nextInt(3) == 0 ? -1 : random.nextInt());
        }
    }

    private String told(String call) {
        return "seed " + seed + ": " + call;
    }

    private boolean isFile(int n) {
        return n >= 0 && n < model.files.size();
    }

    private boolean isStep(int n) {
        return n >= 0 && n < model.steps.size();
    }

    private void changeFile(long content) {
        int want = model.files.size() == 16 ? -1 : model.files.size();
        if (want >= 0) {
            model.files.add(content);
        }
        Check.due(told("file"), real.file(content), want);
    }

    private void changeStep(long mask, long modulus) {
        int want = model.steps.size() == 16 || modulus < 0L ? -1 : model.steps.size();
        if (want >= 0) {
            ModelStep s = new ModelStep();
            s.mask = mask;
            s.modulus = modulus;
            model.steps.add(s);
        }
        Check.due(told("step"), real.step(mask, modulus), want);
    }

    private boolean addRead(ModelStep s, ReadThing r) {
        if (s.reads.size() == 6 || s.reads.contains(r)) {
            return false;
        }
        s.known.clear();
        return s.reads.add(r);
    }

    private void changeReadsFile(int step, int file) {
        boolean want = isStep(step) && isFile(file)
            && addRead(model.steps.get(step), new ReadThing(true, file, 0));
        Check.due(told("readsFile"), real.readsFile(step, file), want);
    }

    private void changeReadsPart(int step, int other, int part) {
        boolean want = isStep(step) && isStep(other) && (part == 0 || part == 1) && other < step
            && addRead(model.steps.get(step), new ReadThing(false, other, part));
        Check.due(told("readsPart"), real.readsPart(step, other, part), want);
    }

    private void changeForce(int step) {
        boolean want = isStep(step) && !model.steps.get(step).forced;
        if (want) {
            model.steps.get(step).forced = true;
        }
        Check.due(told("force"), real.force(step), want);
    }

    private void changeTouch(int file) {
        Check.due(told("touch"), real.touch(file), isFile(file) ? ++touches[file] : -1);
    }

    private void changeSet(int file, boolean there, long content) {
        if (isFile(file)) {
            model.files.set(file, there ? content : null);
        }
        Check.due(told("set"), real.set(file, there, content), isFile(file));
    }

    private void changeBuild(int bits) {
        Check.due(told("build"), real.build(bits), model.build(bits));
        for (int what = 0; what < 5; what++) {
            Check.due(told("counted " + what), real.counted(what), model.counts[what]);
            countsSeen[what] += model.counts[what];
        }
        int done = 0;
        for (int cause = 0; cause < 4; cause++) {
            Check.due(told("total " + cause), real.total(cause), model.totals[cause]);
            done += model.totals[cause];
        }
        if (done == 0) {
            Check.dueThrow(told("share"), () -> real.share(), ArithmeticException.class);
        } else {
            Check.due(told("share"), real.share(), 1000L * model.cut / done);
        }
        for (int n = 0; n < model.steps.size(); n++) {
            compareStep(n, model.steps.get(n));
        }
    }

    private void compareStep(int n, ModelStep s) {
        statesSeen[s.state]++;
        Check.due(told("state " + n), real.state(n), s.state);
        Check.due(told("cause " + n), real.cause(n), s.cause);
        Check.due(told("records " + n), real.records(n), s.known.size());
        for (int k = 0; k < 4; k++) {
            boolean is = k < s.known.size();
            Check.due(told("failed " + n + " " + k), real.failed(n, k), is ? s.known.get(k).failure : -1);
            for (int i = 0; i < 7; i++) {
                Long value = is && i < s.reads.size() ? s.known.get(k).reads.get(i) : null;
                Check.due(told("record " + n + " " + k + " " + i), real.record(n, k, i), value == null ? 0L : value);
            }
        }
        if (s.known.isEmpty() || s.known.get(0).failure >= 0) {
            Check.dueThrow(told("output " + n), () -> real.output(n, 0), IllegalStateException.class);
        } else {
            Check.due(told("face " + n), real.output(n, 0), s.known.get(0).face);
            Check.due(told("body " + n), real.output(n, 1), s.known.get(0).body);
        }
    }
}
