import java.util.Random;

/** Long runs of random calls, the program beside the model: every answer and every byte must agree. */
public final class ModelTest {
    private static final int RUNS = 1500;
    private static final int CALLS = 200;
    private final Check check = new Check();
    private final Random random;
    private final SegmentLog log = new SegmentLog();
    private final Model model = new Model();
    private final int keys;

    private ModelTest(int seed) {
        random = new Random(seed);
        keys = 1 + random.nextInt(12);
        check.part("run " + seed);
    }

    public static void main(String[] args) {
        int failed = 0;
        for (int seed = 0; seed < RUNS && failed < 3; seed++) {
            ModelTest test = new ModelTest(seed);
            test.play();
            failed += test.check.failed() ? 1 : 0;
        }
        System.out.println(failed + " runs differ from the model");
        if (failed > 0) {
            System.exit(1);
        }
    }

    private void play() {
        if (random.nextInt(3) > 0) {
            int n = 4 + random.nextInt(random.nextBoolean() ? 61 : 8);
            check.due("format(" + n + ")", log.format(n), model.format(n));
        }
        for (int i = 0; i < CALLS && !check.failed(); i++) {
            step();
            compareState();
        }
        compareDisk();
    }

    private void step() {
        int turn = random.nextInt(100);
        if (turn < 55) {
            long key = random.nextInt(40) == 0 ? random.nextLong() : random.nextInt(keys) - keys / 2;
            long value = random.nextLong();
            check.due("add(" + key + ", " + value + ")", log.add(key, value), model.add(key, value));
        } else if (turn < 62) {
            check.due("flush()", log.flush(), model.flush());
        } else if (turn < 68) {
            check.due("sync()", log.sync(), model.sync());
        } else if (turn < 80) {
            int n = random.nextInt(3) == 0 ? random.nextInt(800) - 3 : -1;
            check.due("commit(" + n + ")", log.commit(n), model.commit(n));
        } else if (turn < 86) {
            int n = random.nextInt(300) - 4;
            check.due("crash(" + n + ")", log.crash(n), model.crash(n));
        } else if (turn < 94) {
            check.due("open()", log.open(), model.open());
        } else if (turn < 97) {
            pokeBoth(random.nextInt(66) - 1, random.nextInt(66) - 1, random.nextInt(258) - 1);
        } else if (turn < 98) {
            forge();
        } else if (turn < 99) {
            forgeEdge();
        } else if (random.nextInt(10) == 0) {
            int n = random.nextInt(70);
            check.due("format(" + n + ")", log.format(n), model.format(n));
        }
    }

    private void pokeBoth(int b, int i, int mask) {
        check.due("poke(" + b + ", " + i + ", " + mask + ")", log.poke(b, i, mask), model.poke(b, i, mask));
    }

    /** A change of a few low bytes that leaves the BLOCK WHOLE, so that opening must look at what it says. */
    private void forge() {
        int b = random.nextInt(random.nextBoolean() ? 2 : log.count(0));
        int[] likely = {0, 1, 2, 3, 4, 6, 8, 10, 11, 12, 14, 16, 18, 19, 20, 22, 48, 51, 55};
        int i = likely[random.nextInt(likely.length)];
        pokeBoth(b, i, 1 + random.nextInt(random.nextBoolean() ? 3 : 255));
        setBoth(b, 56, 8, Forge.sum(log, b));
    }

    private void setBoth(int b, int at, int length, long number) {
        for (int k = 0; k < length; k++) {
            int mask = (int) (number >>> (8 * k) & 255) ^ log.octet(b, at + k);
            if (mask != 0) {
                pokeBoth(b, at + k, mask);
            }
        }
    }

    /** One number of a HEAD becomes one at, or next to, a bound of the document. */
    private void forgeEdge() {
        int[][] fields = {{1, 1}, {2, 6}, {48, 8}, {8, 2}, {10, 2}, {12, 2}, {14, 2}, {18, 2}, {20, 2}, {22, 2}};
        int n = log.count(0);
        long[] edges = {0, 1, 2, 3, 4, 5, 6, n - 1, n, 63, 64, 255, 256, 65534, 65535, 999999999, 1000000000,
            1000000001, 1000000002, 1L << 32 | 1, -1};
        int b = random.nextInt(2);
        int[] field = fields[random.nextInt(fields.length)];
        long edge = edges[random.nextInt(edges.length)];
        if (field[0] == 8 && log.count(2) > 0) {
            renumberFirstFile((int) (edge & 65535));
            return;
        }
        setBoth(b, field[0], field[1], edge);
        setBoth(b, 56, 8, Forge.sum(log, b));
    }

    /** In the HEAD and in its BLOCKS, so that the store opens with it. */
    private void renumberFirstFile(int number) {
        int head = log.count(7) % 2;
        setBoth(head, 8, 2, number);
        setBoth(head, 56, 8, Forge.sum(log, head));
        for (int place = 0; place < log.file(0, 2); place++) {
            int block = log.file(0, 1) + place;
            setBoth(block, 2, 2, number);
            setBoth(block, 56, 8, Forge.sum(log, block));
        }
    }

    private void compareState() {
        for (int what = -1; what <= 11; what++) {
            check.due("count(" + what + ")", log.count(what), model.count(what));
        }
        check.due("acknowledged()", log.acknowledged(), model.acknowledged());
        check.due("bad()", log.bad(), model.bad());
        long key = random.nextInt(keys + 2) - keys / 2 - 1;
        check.due("get(" + key + ")", log.get(key), model.get(key));
        check.due("times(" + key + ")", log.times(key), model.times(key));
        int i = random.nextInt(Math.max(1, model.count(3)) + 2) - 1;
        for (int what = -1; what <= 3; what++) {
            check.due("record(" + i + ", " + what + ")", log.record(i, what), model.record(i, what));
        }
        int f = random.nextInt(7) - 1;
        for (int what = -1; what <= 4; what++) {
            check.due("file(" + f + ", " + what + ")", log.file(f, what), model.file(f, what));
        }
        int q = random.nextInt(6) - 1;
        check.due("queued(" + q + ")", log.queued(q), model.queued(q));
        int b = random.nextInt(66) - 1;
        check.due("use(" + b + ")", log.use(b), model.use(b));
        int at = random.nextInt(66) - 1;
        check.due("octet(" + b + ", " + at + ")", log.octet(b, at), model.octet(b, at));
    }

    private void compareDisk() {
        for (int b = 0; b < model.count(0); b++) {
            check.due("use(" + b + ")", log.use(b), model.use(b));
            for (int i = 0; i < 64; i++) {
                check.due("octet(" + b + ", " + i + ")", log.octet(b, i), model.octet(b, i));
            }
        }
    }
}
