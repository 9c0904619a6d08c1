import java.util.Random;

/** Random runs of calls, of fixed seeds, on a kernel and on the model: all answers must be the same. */
public final class ModelTest {
    private static final int RUNS = 600;
    // The 359 calls of compareAll() come on top, and an object has 512.
    private static final int CALLS_THEN_ALL = 140;
    private static final int CALLS_ALONE = 512;

    private final Random random;
    private final PageKernel kernel = new PageKernel();
    private final Model model = new Model();
    private final int[] weights;
    private final int mostGrowth;

    private ModelTest(int seed) {
        random = new Random(seed);
        // Some runs are rich in one sort of call and have none of another.
        weights = new int[18];
        for (int i = 0; i < weights.length; i++) {
            weights[i] = random.nextInt(4) * random.nextInt(4);
        }
        weights[0] += 2;
        weights[2] += 3;
        mostGrowth = 1 << random.nextInt(8);
    }

    public static void main(String[] args) {
        for (int seed = 0; seed < RUNS; seed++) {
            Due.in("model, short run " + seed);
            ModelTest run = new ModelTest(seed);
            run.calls(CALLS_THEN_ALL);
            run.compareAll();
            Due.in("model, long run " + seed);
            new ModelTest(RUNS + seed).calls(CALLS_ALONE);
        }
        Due.end();
    }

    private void calls(int many) {
        for (int i = 0; i < many; i++) {
            call(pick());
        }
    }

    private int pick() {
        int sum = 0;
        for (int w : weights) {
            sum += w;
        }
        int at = random.nextInt(sum);
        int call = 0;
        while (at >= weights[call]) {
            at -= weights[call];
            call++;
        }
        return call;
    }

    private int odd(int usual) {
        if (random.nextInt(40) != 0) {
            return usual;
        }
        int[] odds = {-1, -2, -63, -64, Integer.MIN_VALUE, Integer.MAX_VALUE, 5, 8, 16, 128, 256, 257, 16384, 32};
        return odds[random.nextInt(odds.length)];
    }

    private int pid() {
        return odd(random.nextInt(16) & random.nextInt(16));
    }

    private int address() {
        int pages = Math.max(1, model.process(random.nextInt(16), 1));
        return odd(64 * random.nextInt(pages + 1) + random.nextInt(3) * 31);
    }

    private void call(int number) {
        int a = pid();
        int address = address();
        int n = odd(random.nextInt(mostGrowth + 1) - random.nextInt(mostGrowth) / 2);
        int v = random.nextInt(1000) - 500;
        int order = odd(random.nextInt(8) & random.nextInt(8));
        int frame = odd(random.nextInt(128));
        int first = odd(frame & (-1 << random.nextInt(8)));
        int what = odd(random.nextInt(2));
        int more = odd(random.nextInt(5));
        int page = odd(address / 64);
        switch (number) {
            case 0 -> Due.is("spawn()", model.spawn(), kernel.spawn());
            case 1 -> Due.is("fork(" + a + ")", model.fork(a), kernel.fork(a));
            case 2 -> Due.is("grow(" + a + ", " + n + ")", model.grow(a, n), kernel.grow(a, n));
            case 3 -> Due.is("load(" + a + ", " + address + ")", model.load(a, address), kernel.load(a, address));
            case 4 -> Due.is("has(" + a + ", " + address + ")", model.has(a, address), kernel.has(a, address));
            case 5 -> Due.is("store(" + a + ", " + address + ", " + v + ")", model.store(a, address, v),
                kernel.store(a, address, v));
            case 6 -> Due.is("exit(" + a + ", " + v + ")", model.exit(a, v), kernel.exit(a, v));
            case 7 -> Due.is("reap(" + a + ")", model.reap(a), kernel.reap(a));
            case 8 -> Due.is("tick()", model.tick(), kernel.tick());
            case 9 -> Due.is("current()", model.current(), kernel.current());
            case 10 -> Due.is("block(" + order + ")", model.block(order), kernel.block(order));
            case 11 -> Due.is("unblock(" + first + ")", model.unblock(first), kernel.unblock(first));
            case 12 -> Due.is("freeFrames()", model.freeFrames(), kernel.freeFrames());
            case 13 -> Due.is("free(" + order + ", " + what + ")", model.free(order, what), kernel.free(order, what));
            case 14 -> Due.is("frame(" + a + ", " + page + ")", model.frame(a, page), kernel.frame(a, page));
            case 15 -> Due.is("about(" + frame + ", " + what + ")", model.about(frame, what), kernel.about(frame, what));
            case 16 -> Due.is("process(" + a + ", " + more + ")", model.process(a, more), kernel.process(a, more));
            default -> Due.is("told(" + more + ")", model.told(more), kernel.told(more));
        }
    }

    private void compareAll() {
        Due.is("freeFrames()", model.freeFrames(), kernel.freeFrames());
        Due.is("current()", model.current(), kernel.current());
        for (int order = 0; order < 8; order++) {
            for (int what = 0; what < 2; what++) {
                Due.is("free(" + order + ", " + what + ")", model.free(order, what), kernel.free(order, what));
            }
        }
        for (int frame = 0; frame < 128; frame++) {
            for (int what = 0; what < 2; what++) {
                Due.is("about(" + frame + ", " + what + ")", model.about(frame, what), kernel.about(frame, what));
            }
        }
        for (int pid = 0; pid < 16; pid++) {
            for (int what = 0; what < 5; what++) {
                Due.is("process(" + pid + ", " + what + ")", model.process(pid, what), kernel.process(pid, what));
            }
        }
        for (int what = 0; what < 5; what++) {
            Due.is("told(" + what + ")", model.told(what), kernel.told(what));
        }
    }
}
