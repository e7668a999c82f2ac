import java.util.Arrays;
import java.util.function.IntSupplier;

/** Promises 1 to 19: a test for each sentence that names a boundary, an empty or full store, or a refused call. */
public final class CallEdgesTest extends Steps {
    private static final int[] FAR = {Integer.MIN_VALUE, Integer.MIN_VALUE + 1, -65536, 65536, Integer.MAX_VALUE - 1,
        Integer.MAX_VALUE};

    public static void main(String[] args) {
        CallEdgesTest test = new CallEdgesTest();
        test.newObjects();
        test.records();
        test.commits();
        test.crashesAndOpenings();
        test.questions();
        test.blocks();
        test.counts();
        test.check.end();
    }

    private void newObjects() {
        newDisk();
        newObjectsShareNothing();
        formatMakesAnother();
        formatWithoutAnything();
        formatOpens();
        formatBad();
    }

    private void records() {
        addAnswersItsSequence();
        addClosed();
        addFull();
        addNotFullYet();
        flushAnswersHowMany();
        flushClosed();
        flushFull();
        flushOfNoneIsNotFull();
        syncAnswersHowMany();
        syncLeavesWhatWaits();
        syncClosed();
    }

    private void commits() {
        commitAnswersTheGeneration();
        commitZero();
        commitClosed();
        commitFull();
        commitFullWithPowerFailing();
        commitMinusOneNeverFails();
        commitAtTheLastByte();
        commitOfAllThatItWrites();
        commitQueueFirst();
        commitClosesAsByCrash();
        commitBad();
    }

    private void crashesAndOpenings() {
        crashOfFewerBytes();
        crashOfAll();
        crashOfNothing();
        crashLosesMemory();
        crashBad();
        crashClosed();
        openAnswersHowMany();
        openTellsTheBlock();
        openTurn();
        acknowledgedOfNothing();
        acknowledgedUpTo();
        acknowledgedAsWritten();
        acknowledgedClosed();
    }

    private void questions() {
        getLatest();
        getNone();
        getClosed();
        timesOfKeys();
        timesOfNone();
        timesClosed();
        recordFirstAndLast();
        recordPlaces();
        recordNoneSuch();
        recordNoneSuchAnyMore();
        recordClosed();
        fileFirstToFifth();
        fileBad();
        fileClosed();
        fileNotSoMany();
    }

    private void blocks() {
        useOfEach();
        useBad();
        useClosed();
        octetEdges();
        octetBad();
        octetClosedToo();
        pokeEdges();
        pokeBad();
        pokeClosedToo();
        badOfLatestHead();
        badFromGenerationOne();
        badOfLogAndFiles();
        badNotInTheQueue();
        badLeast();
        badNone();
        badClosed();
        queuedFirstAndLast();
        queuedNone();
        queuedClosed();
    }

    private void counts() {
        countEmpty();
        countFull();
        countBad();
        countClosed();
        wrongArgumentsWhileClosed();
    }

    private void dueClosed(String call, IntSupplier answer) {
        due(call, answer.getAsInt(), CLOSED);
    }

    private void newDisk() {
        sentence("promise 1", "A DISK of 16 BLOCKS, all 0, open.");
        SegmentLog log = new SegmentLog();
        dueCounts(log, 16, 14, 0, 0, 0, 0, 0, 0, 1, 1, 0);
        dueZeroDisk(log, 16);
        due("octet(16, 0)", log.octet(16, 0), BAD);
        dueUses(log, 3, 3, 0, 0, 0, 0, 0, 0, 0, 0, 0, 0, 0, 0, 0, 0, BAD);
        due("open()", log.open(), TURN);
    }

    private void newObjectsShareNothing() {
        sentence("promise 1", "A DISK of 16 BLOCKS (each object its own)");
        SegmentLog one = new SegmentLog();
        SegmentLog other = new SegmentLog();
        adds(one, 1, 7);
        one.commit(-1);
        one.poke(9, 9, 9);
        dueCounts(other, 16, 14, 0, 0, 0, 0, 0, 0, 1, 1, 0);
        dueZeroDisk(other, 16);
        one.crash(0);
        due("count(9)", other.count(9), 1);
        dueZeroDisk(new SegmentLog(), 16);
    }

    private void formatMakesAnother() {
        sentence("promise 2", "THE DISK is another one, of n BLOCKS, all 0");
        for (int n : new int[] {4, 5, 16, 63, 64}) {
            SegmentLog log = busy();
            due("format(" + n + ")", log.format(n), 0);
            due("count(0)", log.count(0), n);
            due("count(1)", log.count(1), n - 2);
            dueZeroDisk(log, n);
        }
        SegmentLog same = busy();
        due("format(16), as many as before", same.format(16), 0);
        dueZeroDisk(same, 16);
    }

    private void formatWithoutAnything() {
        sentence("promise 2", "the store is open, without anything: 0");
        SegmentLog log = busy();
        due("format(16)", log.format(16), 0);
        dueCounts(log, 16, 14, 0, 0, 0, 0, 0, 0, 1, 1, 0);
        dueRecords(log);
        dueQueue(log);
        due("acknowledged()", log.acknowledged(), 0);
        due("get(1)", log.get(1), 0);
        due("times(1)", log.times(1), 0);
        due("file(0, 0)", log.file(0, 0), BAD);
        due("bad()", log.bad(), NONE);
        due("flush()", log.flush(), 0);
        due("sync()", log.sync(), 0);
        due("commit(-1)", log.commit(-1), 0);
    }

    private void formatOpens() {
        sentence("promise 2", "the store is open (it was CLOSED)");
        SegmentLog log = closed(busy());
        due("format(4)", log.format(4), 0);
        due("count(9)", log.count(9), 1);
        due("open()", log.open(), TURN);
        due("add", log.add(1, 1), 1);
    }

    private void formatBad() {
        sentence("promise 2", "BAD.");
        SegmentLog log = busy();
        for (int n : new int[] {-64, -4, -1, 0, 1, 2, 3, 65, 66, 128, 256 + 16}) {
            dueRefused("format(" + n + ")", log, () -> log.format(n), BAD);
        }
        for (int n : FAR) {
            dueRefused("format(" + n + ")", log, () -> log.format(n), BAD);
        }
        log.crash(0);
        dueRefused("format(3), closed", log, () -> log.format(3), BAD);
        dueRefused("format(65), closed", log, () -> log.format(65), BAD);
    }

    private void addAnswersItsSequence() {
        sentence("promise 3", "A record more: its SEQUENCE.");
        SegmentLog log = new SegmentLog();
        for (int i = 1; i <= 10; i++) {
            due("add", log.add(0, 0), i);
            due("count(3)", log.count(3), i);
            due("times(0)", log.times(0), i);
        }
    }

    private void addClosed() {
        sentence("promise 3", "CLOSED");
        SegmentLog log = closed(busy());
        dueRefused("add", log, () -> log.add(1, 1), CLOSED);
        SegmentLog full = closed(fullOfLog(4));
        dueRefused("add", full, () -> full.add(1, 1), CLOSED);
    }

    private void addFull() {
        sentence("promise 3", "FULL: it is the third that waits, and no BLOCK is FREE.");
        for (int n : new int[] {4, 5, 64}) {
            SegmentLog log = fullOfLog(n);
            due("count(1)", log.count(1), 0);
            int last = 3 * (n - 2);
            due("add, the first that waits", log.add(1, 1), last + 1);
            due("add, the second", log.add(1, 1), last + 2);
            dueRefused("add, the third", log, () -> log.add(1, 1), FULL);
            dueRefused("add, the third", log, () -> log.add(Long.MIN_VALUE, 1), FULL);
            log.sync();
            dueRefused("add, behind sync()", log, () -> log.add(1, 1), FULL);
        }
    }

    private void addNotFullYet() {
        sentence("promise 3", "FULL: .. no BLOCK is FREE (one is)");
        SegmentLog log = formatted(4);
        adds(log, 1, 5);
        due("count(1)", log.count(1), 1);
        due("add, into the last FREE one", log.add(6, 6), 6);
        due("count(1)", log.count(1), 0);
        dueQueue(log, 2, 3);
    }

    private void flushAnswersHowMany() {
        sentence("promise 4", "What waits is written as a LOG BLOCK: how many records.");
        SegmentLog log = new SegmentLog();
        for (int waiting = 0; waiting <= 2; waiting++) {
            adds(log, 1, waiting);
            due("flush()", log.flush(), waiting);
            due("count(4)", log.count(4), 0);
            dueRefused("flush(), nothing waits", log, log::flush, 0);
        }
        dueQueue(log, 2, 3);
        adds(log, 1, 3);
        dueRefused("flush(), three went by themselves", log, log::flush, 0);
    }

    private void flushClosed() {
        sentence("promise 4", "CLOSED");
        SegmentLog log = closed(busy());
        dueRefused("flush()", log, log::flush, CLOSED);
    }

    private void flushFull() {
        sentence("promise 4", "FULL: some wait, and no BLOCK is FREE.");
        for (int waiting = 1; waiting <= 2; waiting++) {
            SegmentLog log = fullOfLog(4);
            adds(log, 1, waiting);
            dueRefused("flush(), " + waiting + " wait", log, log::flush, FULL);
        }
        SegmentLog last = formatted(4);
        adds(last, 1, 4);
        due("flush(), into the last FREE one", last.flush(), 1);
        dueQueue(last, 2, 3);
    }

    private void flushOfNoneIsNotFull() {
        sentence("promise 4", "FULL: some wait (none does)");
        SegmentLog log = fullOfLog(4);
        due("count(1)", log.count(1), 0);
        dueRefused("flush()", log, log::flush, 0);
    }

    private void syncAnswersHowMany() {
        sentence("promise 5", "A SYNC: how many BLOCKS went from the QUEUE.");
        for (int blocks = 0; blocks <= 62; blocks++) {
            SegmentLog log = formatted(64);
            adds(log, 1, 3 * blocks);
            due("sync()", log.sync(), blocks);
            dueRefused("sync(), an empty QUEUE", log, log::sync, 0);
        }
    }

    private void syncLeavesWhatWaits() {
        sentence("promise 5", "A SYNC (of the QUEUE, not of what waits)");
        SegmentLog log = new SegmentLog();
        adds(log, 1, 2);
        dueRefused("sync(), two wait", log, log::sync, 0);
        due("count(4)", log.count(4), 2);
    }

    private void syncClosed() {
        sentence("promise 5", "CLOSED.");
        SegmentLog log = closed(busy());
        dueRefused("sync()", log, log::sync, CLOSED);
    }

    private void commitAnswersTheGeneration() {
        sentence("promise 6", "A COMMIT: the GENERATION");
        SegmentLog log = formatted(64);
        for (int g = 1; g <= 20; g++) {
            log.add(g, g);
            due("commit(-1)", log.commit(g % 2 == 0 ? -1 : Integer.MAX_VALUE), g);
            due("count(7)", log.count(7), g);
        }
    }

    private void commitZero() {
        sentence("promise 6", "0: all records are in FILES.");
        SegmentLog log = new SegmentLog();
        for (int n : new int[] {-1, 0, 1, 64, Integer.MAX_VALUE}) {
            dueRefused("commit(" + n + "), no records", log, () -> log.commit(n), 0);
        }
        adds(log, 1, 4);
        log.commit(-1);
        for (int n : new int[] {-1, 0, 1, 64, Integer.MAX_VALUE}) {
            dueRefused("commit(" + n + ")", log, () -> log.commit(n), 0);
        }
        log.crash(0);
        log.open();
        dueRefused("commit(-1), opened", log, () -> log.commit(-1), 0);
        adds(log, 5, 5);
        due("commit(-1), one that waits", log.commit(-1), 2);
    }

    private void commitClosed() {
        sentence("promise 6", "CLOSED");
        SegmentLog log = closed(busy());
        for (int n : new int[] {-1, 0, 1, 1000, Integer.MAX_VALUE}) {
            dueRefused("commit(" + n + ")", log, () -> log.commit(n), CLOSED);
        }
    }

    private void commitFull() {
        sentence("promise 6", "FULL: no run is long enough.");
        SegmentLog log = fullOfLog(4);
        dueRefused("commit(-1), no BLOCK is FREE", log, () -> log.commit(-1), FULL);
        SegmentLog wait = fullOfLog(4);
        adds(wait, 7, 8);
        dueRefused("commit(-1), and two wait", wait, () -> wait.commit(-1), FULL);
        SegmentLog just = formatted(4);
        adds(just, 1, 3);
        due("commit(-1), just long enough", just.commit(-1), 1);
        SegmentLog over = formatted(4);
        adds(over, 1, 4);
        dueRefused("commit(-1), a record too many", over, () -> over.commit(-1), FULL);
    }

    private void commitFullWithPowerFailing() {
        sentence("promise 6", "FULL (n of 0 and more)");
        SegmentLog log = fullOfLog(4);
        for (int n : new int[] {0, 1, 64, 128, Integer.MAX_VALUE}) {
            dueRefused("commit(" + n + "): nothing is written", log, () -> log.commit(n), FULL);
        }
        due("sync()", log.sync(), 2);
    }

    private void commitMinusOneNeverFails() {
        sentence("promise 6", "n of 0 and more: power fails (n is -1)");
        SegmentLog log = busy();
        due("commit(-1)", log.commit(-1), 2);
        due("count(9)", log.count(9), 1);
        dueQueue(log);
    }

    /** One BLOCK of a FILE and a HEAD: 128 bytes. */
    private void commitAtTheLastByte() {
        sentence("promise 6", "power fails when n bytes .. are on THE DISK, if that is not all: NONE");
        for (int n : new int[] {0, 1, 63, 64, 65, 126, 127}) {
            SegmentLog log = new SegmentLog();
            adds(log, 1, 1);
            due("commit(" + n + ")", log.commit(n), NONE);
            due("count(9)", log.count(9), 0);
            due("open()", log.open(), 0);
        }
        for (int n : new int[] {128, 129, 192, Integer.MAX_VALUE}) {
            SegmentLog log = new SegmentLog();
            adds(log, 1, 1);
            due("commit(" + n + ")", log.commit(n), 1);
            due("count(9)", log.count(9), 1);
            log.crash(0);
            due("open()", log.open(), 1);
        }
    }

    private void commitOfAllThatItWrites() {
        sentence("promise 6", "n bytes of all that it writes (a FILE of 31 BLOCKS, 31 of LOG, a HEAD)");
        int all = 63 * 64;
        for (int n : new int[] {0, 31 * 64, 62 * 64, all - 1, all}) {
            SegmentLog log = formatted(64);
            adds(log, 1, 93);
            due("commit(" + n + ")", log.commit(n), n < all ? NONE : 1);
            if (n < all) {
                due("open()", log.open(), Math.min(93, n / 64 * 3));
                due("count(7)", log.count(7), 0);
            }
        }
    }

    private void commitQueueFirst() {
        sentence("promise 6", "(the QUEUE of before first)");
        SegmentLog log = new SegmentLog();
        adds(log, 1, 7);
        due("commit(127): two LOG BLOCKS are in the QUEUE", log.commit(127), NONE);
        check.dueTrue("the first is WHOLE", Forge.whole(log, 2));
        check.dueTrue("the second is not", !Forge.whole(log, 3));
        dueZeroBlock(log, 4);
        due("open()", log.open(), 3);
        SegmentLog both = new SegmentLog();
        adds(both, 1, 7);
        due("commit(128)", both.commit(128), NONE);
        due("open()", both.open(), 6);
        SegmentLog synced = new SegmentLog();
        adds(synced, 1, 6);
        synced.sync();
        due("commit(128): the FILE, as the QUEUE was empty", synced.commit(128), NONE);
        check.dueTrue("the FILE is WHOLE", Forge.whole(synced, 4) && Forge.whole(synced, 5));
        dueZeroBlock(synced, 1);
    }

    private void commitClosesAsByCrash() {
        sentence("promise 6", "and it is CLOSED as by crash()");
        SegmentLog log = busy();
        due("commit(0)", log.commit(0), NONE);
        dueCounts(log, 16, 0, 0, 0, 0, 0, 0, 0, 0, 0, 0);
        due("add", log.add(1, 1), CLOSED);
        due("commit(-1)", log.commit(-1), CLOSED);
        due("crash(0)", log.crash(0), CLOSED);
        due("queued(0)", log.queued(0), CLOSED);
        due("get(1)", log.get(1), 0);
        SegmentLog crashed = closed(busy());
        due("open()", log.open(), crashed.open());
        for (int i = 0; i < 1024; i++) {
            due("octet", log.octet(i / 64, i % 64), crashed.octet(i / 64, i % 64));
        }
    }

    private void commitBad() {
        sentence("promise 6", "BAD: n below - 1.");
        SegmentLog log = busy();
        SegmentLog empty = new SegmentLog();
        SegmentLog full = fullOfLog(4);
        for (int n : new int[] {-2, -3, -64, Integer.MIN_VALUE}) {
            dueRefused("commit(" + n + ")", log, () -> log.commit(n), BAD);
            dueRefused("commit(" + n + "), nothing to do", empty, () -> empty.commit(n), BAD);
            dueRefused("commit(" + n + "), full", full, () -> full.commit(n), BAD);
        }
    }

    private void crashOfFewerBytes() {
        sentence("promise 7", "Power fails behind n bytes of the QUEUE .. how many BLOCKS .. are on THE DISK wholly");
        for (int n : new int[] {0, 1, 63, 64, 65, 127, 128, 129, 191, 192}) {
            SegmentLog log = fullOfLog(5);
            due("crash(" + n + ")", log.crash(n), n / 64);
            due("open()", log.open(), n / 64 * 3);
        }
    }

    private void crashOfAll() {
        sentence("promise 7", "(all, if it has fewer)");
        for (int n : new int[] {192, 193, 256, 10000, Integer.MAX_VALUE - 63, Integer.MAX_VALUE}) {
            SegmentLog log = fullOfLog(5);
            due("crash(" + n + ")", log.crash(n), 3);
            due("open()", log.open(), 9);
        }
    }

    private void crashOfNothing() {
        sentence("promise 7", "n bytes of the QUEUE (it is empty)");
        for (int n : new int[] {0, 1, 64, Integer.MAX_VALUE}) {
            SegmentLog log = new SegmentLog();
            due("crash(" + n + ")", log.crash(n), 0);
            due("count(9)", log.count(9), 0);
            dueZeroDisk(log, 16);
            due("open()", log.open(), 0);
        }
    }

    private void crashLosesMemory() {
        sentence("promise 7", "what is in memory is gone, the store CLOSED");
        SegmentLog log = busy();
        due("times(3)", log.times(3), 2);
        due("crash(0)", log.crash(0), 0);
        dueCounts(log, 16, 0, 0, 0, 0, 0, 0, 0, 0, 0, 0);
        due("open()", log.open(), 8);
        due("times(3)", log.times(3), 1);
        due("count(8): their SEQUENCES are given again", log.count(8), 9);
        due("use(5): the BLOCK of the QUEUE is FREE again", log.use(5), 0);
    }

    private void crashBad() {
        sentence("promise 7", "BAD: n below 0");
        SegmentLog log = busy();
        for (int n : new int[] {-1, -2, -64, Integer.MIN_VALUE}) {
            dueRefused("crash(" + n + ")", log, () -> log.crash(n), BAD);
        }
        log.crash(0);
        for (int n : new int[] {-1, Integer.MIN_VALUE}) {
            dueRefused("crash(" + n + "), closed", log, () -> log.crash(n), BAD);
        }
    }

    private void crashClosed() {
        sentence("promise 7", "CLOSED.");
        SegmentLog log = closed(busy());
        for (int n : new int[] {0, 1, 64, Integer.MAX_VALUE}) {
            dueRefused("crash(" + n + ")", log, () -> log.crash(n), CLOSED);
        }
        SegmentLog failed = busy();
        failed.commit(70);
        dueRefused("crash(64) behind a commit that failed", failed, () -> failed.crash(64), CLOSED);
    }

    private void openAnswersHowMany() {
        sentence("promise 8", "OPENING: how many records there are");
        SegmentLog empty = closed(new SegmentLog());
        due("open(), an empty DISK", empty.open(), 0);
        SegmentLog full = fullOfLog(64);
        full.crash(Integer.MAX_VALUE);
        due("open(), a DISK full of LOG", full.open(), 186);
        SegmentLog both = busy();
        both.crash(Integer.MAX_VALUE);
        due("open(), FILE and LOG", both.open(), 11);
        due("count(3)", both.count(3), 11);
    }

    private void openTellsTheBlock() {
        sentence("promise 8", "-10 less the BLOCK that is not as it must be");
        for (int n : new int[] {4, 64}) {
            for (int block : new int[] {2, n - 1}) {
                SegmentLog log = closed(formatted(n));
                Forge.head(log, 1, 1, 9, 1, block, 1, 1);
                due("open(), BLOCK " + block, log.open(), -10 - block);
                Forge.fileBlock(log, block, 1, 0, 1, 1, 1);
                due("open()", log.open(), 1);
            }
        }
    }

    private void openTurn() {
        sentence("promise 8", "TURN: it is open.");
        SegmentLog log = busy();
        dueRefused("open()", log, log::open, TURN);
        log.commit(0);
        due("open()", log.open(), 8);
        dueRefused("open()", log, log::open, TURN);
        log.format(4);
        dueRefused("open()", log, log::open, TURN);
    }

    private void acknowledgedOfNothing() {
        sentence("promise 9", "The greatest SEQUENCE up to which all records are on THE DISK (none is)");
        SegmentLog log = new SegmentLog();
        due("acknowledged()", log.acknowledged(), 0);
        adds(log, 1, 2);
        due("acknowledged(), two wait", log.acknowledged(), 0);
        adds(log, 3, 4);
        due("acknowledged(), three in the QUEUE", log.acknowledged(), 0);
        log.crash(63);
        log.open();
        due("acknowledged(), a torn BLOCK", log.acknowledged(), 0);
    }

    private void acknowledgedUpTo() {
        sentence("promise 9", "The greatest SEQUENCE up to which all records are on THE DISK");
        SegmentLog log = new SegmentLog();
        adds(log, 1, 7);
        log.sync();
        due("LOG", log.acknowledged(), 6);
        log.flush();
        due("LOG in the QUEUE", log.acknowledged(), 6);
        log.sync();
        due("LOG", log.acknowledged(), 7);
        adds(log, 8, 9);
        log.commit(-1);
        due("FILES", log.acknowledged(), 9);
        adds(log, 10, 14);
        log.crash(64);
        log.open();
        due("opened", log.acknowledged(), 12);
        SegmentLog full = fullOfLog(4);
        adds(full, 1, 2);
        full.commit(-1);
        due("a COMMIT that was FULL", full.acknowledged(), 0);
        full.sync();
        due("all but those that wait", full.acknowledged(), 6);
    }

    private void acknowledgedAsWritten() {
        sentence("promise 9", "(in FILES that the HEAD names, or LOG, as the store wrote them)");
        SegmentLog log = busy();
        for (int b = 0; b < 16; b++) {
            log.poke(b, 20, 1);
        }
        due("acknowledged(), bytes changed", log.acknowledged(), 8);
        log.sync();
        due("acknowledged()", log.acknowledged(), 11);
    }

    private void acknowledgedClosed() {
        sentence("promise 9", "CLOSED.");
        SegmentLog log = closed(busy());
        dueRefused("acknowledged()", log, log::acknowledged, CLOSED);
    }

    private void getLatest() {
        sentence("promise 10", "The value of the latest record with a key");
        SegmentLog log = new SegmentLog();
        log.add(4, 9);
        log.commit(-1);
        log.add(4, 3);
        due("one that waits over a FILE", log.get(4), 3);
        log.flush();
        log.add(4, 7);
        due("one that waits over LOG", log.get(4), 7);
        log.commit(-1);
        due("the later FILE", log.get(4), 7);
        log.add(4, 0);
        due("a value of 0", log.get(4), 0);
        log.crash(0);
        log.open();
        due("opened", log.get(4), 7);
    }

    private void getNone() {
        sentence("promise 10", "0: there is none");
        SegmentLog log = new SegmentLog();
        due("get(0), an empty store", log.get(0), 0);
        log.add(0, 5);
        log.add(2, 6);
        for (long key : new long[] {-1, 1, 3, 1L << 32, Long.MIN_VALUE, Long.MAX_VALUE}) {
            due("get(" + key + ")", log.get(key), 0);
        }
        due("get(0)", log.get(0), 5);
    }

    private void getClosed() {
        sentence("promise 10", "0: .. CLOSED.");
        SegmentLog log = busy();
        due("get(1)", log.get(1), 10);
        log.crash(0);
        due("get(1)", log.get(1), 0);
    }

    private void timesOfKeys() {
        sentence("promise 11", "How many records with a key there are.");
        SegmentLog log = new SegmentLog();
        due("times(0), an empty store", log.times(0), 0);
        SegmentLog full = formatted(64);
        for (int i = 0; i < 188; i++) {
            full.add(Long.MAX_VALUE, i);
        }
        due("times(MAX), a full store", full.times(Long.MAX_VALUE), 188);
        due("add", full.add(Long.MAX_VALUE, 0), FULL);
        due("times(MAX)", full.times(Long.MAX_VALUE), 188);
        due("times(MAX - 1)", full.times(Long.MAX_VALUE - 1), 0);
        due("times(MIN)", full.times(Long.MIN_VALUE), 0);
        SegmentLog busy = busy();
        due("times(3): FILE and LOG", busy.times(3), 2);
        due("times(6): LOG, and one that waits", busy.times(6), 2);
    }

    /** Keys below, between and above all; the records that were there before a crash are none. */
    private void timesOfNone() {
        sentence("promise 11", "How many records with a key there are. (there are none)");
        SegmentLog log = new SegmentLog();
        adds(log, 2, 4);
        log.sync();
        adds(log, 6, 11);
        log.crash(0);
        due("open()", log.open(), 3);
        for (long key : new long[] {Long.MIN_VALUE, -1, 0, 1, 5, 6, 8, 11, 12, Long.MAX_VALUE}) {
            due("times(" + key + ")", log.times(key), 0);
            due("get(" + key + ")", log.get(key), 0);
        }
        log.format(16);
        for (long key : new long[] {-1, 0, 2, 3, 4, 12}) {
            due("times(" + key + "), formatted", log.times(key), 0);
        }
        log.add(-9, 1);
        due("times(-9)", log.times(-9), 1);
        due("times(2)", log.times(2), 0);
        due("times(-10)", log.times(-10), 0);
    }

    private void timesClosed() {
        sentence("promise 11", "CLOSED.");
        SegmentLog log = closed(busy());
        due("times(1)", log.times(1), CLOSED);
        due("times(99)", log.times(99), CLOSED);
    }

    private void recordFirstAndLast() {
        sentence("promise 12", "Record i of all, by keys, of one key by age: key (what = 0), value (1)");
        SegmentLog log = busy();
        dueRecords(log, 1, 10, 0, 2, 20, 0, 3, 30, 0, 3, 30, 1, 4, 40, 0, 4, 40, 1, 5, 50, 0, 5, 50, 1,
            6, 60, 1, 6, 60, 2, 7, 70, 1, 8, 80, 1);
        SegmentLog full = formatted(64);
        for (int i = 188; i >= 1; i--) {
            full.add(i, -i);
        }
        due("the first", full.record(0, 1), -1);
        due("the last", full.record(187, 1), -188);
        due("behind the last", full.record(188, 1), 0);
    }

    private void recordPlaces() {
        sentence("promise 12", "whether it is in a FILE 0, in LOG 1, waits 2 (2)");
        SegmentLog log = new SegmentLog();
        log.add(1, 1);
        due("waits", log.record(0, 2), 2);
        log.flush();
        due("LOG in the QUEUE", log.record(0, 2), 1);
        log.sync();
        due("LOG", log.record(0, 2), 1);
        log.crash(0);
        log.open();
        due("LOG, opened", log.record(0, 2), 1);
        log.commit(-1);
        due("FILE", log.record(0, 2), 0);
        log.add(1, 2);
        due("FILE still", log.record(0, 2), 0);
        due("waits", log.record(1, 2), 2);
    }

    private void recordNoneSuch() {
        sentence("promise 12", "0: there is none such");
        SegmentLog empty = new SegmentLog();
        due("record(0, 2), an empty store", empty.record(0, 2), 0);
        SegmentLog log = new SegmentLog();
        log.add(5, 6);
        for (int what : new int[] {-1, 3, 4, Integer.MIN_VALUE, Integer.MAX_VALUE}) {
            due("record(0, " + what + ")", log.record(0, what), 0);
        }
        for (int i : new int[] {-1, 1, 2, 191, 192, 193}) {
            due("record(" + i + ", 0)", log.record(i, 0), 0);
            due("record(" + i + ", 2)", log.record(i, 2), 0);
        }
        for (int i : FAR) {
            due("record(" + i + ", 1)", log.record(i, 1), 0);
            due("record(" + i + ", " + i + ")", log.record(i, i), 0);
        }
    }

    private void recordNoneSuchAnyMore() {
        sentence("promise 12", "0: there is none such (any more)");
        SegmentLog log = new SegmentLog();
        adds(log, 1, 3);
        log.sync();
        adds(log, 4, 12);
        log.crash(0);
        due("open()", log.open(), 3);
        dueRecords(log, 1, 10, 1, 2, 20, 1, 3, 30, 1);
        for (int i = 3; i <= 12; i++) {
            for (int what = 0; what <= 2; what++) {
                due("record(" + i + ", " + what + ")", log.record(i, what), 0);
            }
        }
        log.format(16);
        for (int i = 0; i <= 12; i++) {
            due("record(" + i + ", 0), formatted", log.record(i, 0), 0);
        }
    }

    private void recordClosed() {
        sentence("promise 12", "0: .. CLOSED.");
        SegmentLog log = busy();
        due("record(9, 2)", log.record(9, 2), 2);
        log.crash(0);
        for (int what = 0; what <= 2; what++) {
            due("record(0, " + what + ")", log.record(0, what), 0);
            due("record(9, " + what + ")", log.record(9, what), 0);
        }
    }

    private void fileFirstToFifth() {
        sentence("promise 13", "Of FILE i (from 0, by age): number, first BLOCK, BLOCKS, records");
        SegmentLog log = formatted(64);
        for (int i = 0; i < 5; i++) {
            adds(log, 1, i + 2);
            log.commit(-1);
        }
        int[][] due = {{1, 2, 1, 2}, {2, 4, 1, 3}, {3, 5, 2, 4}, {4, 7, 2, 5}, {5, 10, 2, 6}};
        for (int i = 0; i < 5; i++) {
            dueFile(log, i, due[i]);
        }
    }

    private void fileBad() {
        sentence("promise 13", "BAD: i is none of 0 .. 4, what");
        SegmentLog log = withFiles(16, 5);
        SegmentLog shut = closed(withFiles(16, 5));
        int[][] wrong = {{-1, 0}, {5, 0}, {6, 3}, {-1, -1}, {5, 4}, {0, -1}, {0, 4}, {4, 4}, {4, -1}};
        for (int[] w : wrong) {
            due("file(" + w[0] + ", " + w[1] + ")", log.file(w[0], w[1]), BAD);
            due("file(" + w[0] + ", " + w[1] + "), closed", shut.file(w[0], w[1]), BAD);
        }
        for (int far : FAR) {
            due("file(" + far + ", 0)", log.file(far, 0), BAD);
            due("file(0, " + far + ")", log.file(0, far), BAD);
            due("file(0, " + far + "), closed", shut.file(0, far), BAD);
        }
    }

    private void fileClosed() {
        sentence("promise 13", "CLOSED (ahead of: there are not so many)");
        SegmentLog log = closed(withFiles(16, 2));
        for (int i = 0; i <= 4; i++) {
            for (int what = 0; what <= 3; what++) {
                due("file(" + i + ", " + what + ")", log.file(i, what), CLOSED);
            }
        }
    }

    private void fileNotSoMany() {
        sentence("promise 13", "BAD: there are not so many.");
        for (int files = 0; files <= 5; files++) {
            SegmentLog log = withFiles(16, files);
            for (int i = 0; i <= 4; i++) {
                due("file(" + i + ", 0) of " + files, log.file(i, 0), i < files ? i + 1 : BAD);
                due("file(" + i + ", 3) of " + files, log.file(i, 3), i < files ? 1 : BAD);
            }
        }
    }

    private void useOfEach() {
        sentence("promise 14", "What BLOCK b is for the store: 0 FREE, 1 LOG, 2 of a FILE, 3 for HEADS.");
        dueUses(busy(), 3, 3, 1, 2, 2, 1, 0, 0, 0, 0, 0, 0, 0, 0, 0, 0);
        SegmentLog full = fullOfLog(64);
        due("use(1)", full.use(1), 3);
        due("use(2)", full.use(2), 1);
        due("use(63)", full.use(63), 1);
    }

    private void useBad() {
        sentence("promise 14", "BAD");
        for (int n : new int[] {4, 16, 64}) {
            SegmentLog log = formatted(n);
            due("use(-1)", log.use(-1), BAD);
            due("use(" + n + ")", log.use(n), BAD);
            due("use(" + (n - 1) + ")", log.use(n - 1), 0);
            for (int far : FAR) {
                due("use(" + far + ")", log.use(far), BAD);
            }
        }
        SegmentLog smaller = formatted(64);
        smaller.format(4);
        due("use(4), of THE DISK before", smaller.use(4), BAD);
    }

    private void useClosed() {
        sentence("promise 14", "BAD; CLOSED.");
        SegmentLog log = closed(busy());
        for (int b = 0; b < 16; b++) {
            due("use(" + b + ")", log.use(b), CLOSED);
        }
        due("use(16)", log.use(16), BAD);
        due("use(-1)", log.use(-1), BAD);
    }

    private void octetEdges() {
        sentence("promise 15", "Byte i of BLOCK b on THE DISK.");
        SegmentLog log = formatted(64);
        int[][] corners = {{0, 0}, {0, 63}, {63, 0}, {63, 63}};
        for (int i = 0; i < corners.length; i++) {
            log.poke(corners[i][0], corners[i][1], 252 + i);
        }
        for (int i = 0; i < corners.length; i++) {
            due("octet", log.octet(corners[i][0], corners[i][1]), 252 + i);
        }
        due("octet(1, 0): not that behind it", log.octet(1, 0), 0);
        due("octet(62, 63)", log.octet(62, 63), 0);
    }

    private void octetBad() {
        sentence("promise 15", "BAD.");
        for (int n : new int[] {4, 16, 64}) {
            SegmentLog log = formatted(n);
            int[][] wrong = {{-1, 0}, {n, 0}, {0, -1}, {0, 64}, {n - 1, 64}, {-1, 64}, {n, -64}, {1, -64}};
            for (int[] w : wrong) {
                due("octet(" + w[0] + ", " + w[1] + ")", log.octet(w[0], w[1]), BAD);
            }
            for (int far : FAR) {
                due("octet(" + far + ", 0)", log.octet(far, 0), BAD);
                due("octet(0, " + far + ")", log.octet(0, far), BAD);
            }
        }
    }

    private void octetClosedToo() {
        sentence("promise 15", "BAD. (CLOSED is not said)");
        SegmentLog log = closed(busy());
        due("octet(3, 0)", log.octet(3, 0), 2);
        due("octet(15, 63)", log.octet(15, 63), 0);
        due("octet(16, 0)", log.octet(16, 0), BAD);
    }

    private void pokeEdges() {
        sentence("promise 16", "Byte i of BLOCK b on THE DISK is joined (xor) with a mask (1 .. 255): what it is.");
        SegmentLog log = formatted(64);
        for (int mask = 1; mask <= 255; mask++) {
            due("poke(63, 63, " + mask + ")", log.poke(63, 63, mask), mask);
            due("octet(63, 63)", log.octet(63, 63), mask);
            due("poke again", log.poke(63, 63, mask), 0);
        }
        log.poke(0, 0, 0xF0);
        due("poke(0, 0, 0x3C)", log.poke(0, 0, 0x3C), 0xCC);
        due("octet(0, 1): that alone", log.octet(0, 1), 0);
    }

    private void pokeBad() {
        sentence("promise 16", "BAD.");
        SegmentLog log = busy();
        int[][] wrong = {{-1, 0, 1}, {16, 0, 1}, {0, -1, 1}, {0, 64, 1}, {0, 0, 0}, {0, 0, 256}, {0, 0, -1},
            {0, 0, 257}, {0, 0, -255}, {15, 64, 0}, {16, 64, 256}};
        for (int[] w : wrong) {
            String call = "poke(" + w[0] + ", " + w[1] + ", " + w[2] + ")";
            dueRefused(call, log, () -> log.poke(w[0], w[1], w[2]), BAD);
        }
        for (int far : FAR) {
            dueRefused("poke(" + far + ", 0, 1)", log, () -> log.poke(far, 0, 1), BAD);
            dueRefused("poke(0, " + far + ", 1)", log, () -> log.poke(0, far, 1), BAD);
            dueRefused("poke(0, 0, " + far + ")", log, () -> log.poke(0, 0, far), BAD);
        }
    }

    private void pokeClosedToo() {
        sentence("promise 16", "BAD. (CLOSED is not said)");
        SegmentLog log = closed(busy());
        due("poke(3, 1, 4)", log.poke(3, 1, 4), 7);
        due("octet(3, 1)", log.octet(3, 1), 7);
        due("open()", log.open(), -10 - 3);
        due("poke(3, 1, 4)", log.poke(3, 1, 4), 3);
        due("open()", log.open(), 8);
        due("poke(16, 0, 1)", log.poke(16, 0, 1), BAD);
    }

    private void badOfLatestHead() {
        sentence("promise 17", "of that of the latest HEAD");
        SegmentLog log = withFiles(16, 2);
        log.poke(1, 0, 1);
        due("bad(): BLOCK 1 is that of the HEAD before", log.bad(), NONE);
        log.poke(0, 0, 1);
        due("bad()", log.bad(), 0);
        adds(log, 3, 3);
        log.commit(-1);
        due("bad(): BLOCK 1 is written anew", log.bad(), NONE);
        log.poke(1, 63, 128);
        due("bad()", log.bad(), 1);
        log.crash(0);
        log.poke(0, 0, 1);
        due("open() by the HEAD before", log.open(), 2);
        due("bad(): BLOCK 0 is that of the latest", log.bad(), NONE);
    }

    private void badFromGenerationOne() {
        sentence("promise 17", "(from GENERATION 1 on)");
        SegmentLog log = new SegmentLog();
        log.poke(0, 0, 1);
        log.poke(1, 0, 1);
        due("bad(), GENERATION 0", log.bad(), NONE);
        log.crash(0);
        log.open();
        due("bad(), opened", log.bad(), NONE);
        adds(log, 1, 1);
        log.commit(-1);
        due("bad(), GENERATION 1", log.bad(), NONE);
        log.poke(1, 0, 1);
        due("bad()", log.bad(), 1);
    }

    private void badOfLogAndFiles() {
        sentence("promise 17", "of LOG and of FILES");
        SegmentLog log = busy();
        int[] due = {NONE, 1, 2, 3, 4, NONE, NONE, NONE, NONE, NONE, NONE, NONE, NONE, NONE, NONE, NONE};
        for (int b = 0; b < 16; b++) {
            log.poke(b, 33, 16);
            due("bad(), BLOCK " + b, log.bad(), due[b]);
            log.poke(b, 33, 16);
        }
        log.sync();
        log.poke(5, 33, 16);
        due("bad(), behind sync()", log.bad(), 5);
    }

    private void badNotInTheQueue() {
        sentence("promise 17", "but those in the QUEUE");
        SegmentLog log = fullOfLog(64);
        due("bad(): none is on THE DISK yet", log.bad(), NONE);
        log.poke(2, 0, 1);
        log.poke(63, 0, 1);
        due("bad()", log.bad(), NONE);
        log.sync();
        due("bad(): written over", log.bad(), NONE);
        log.poke(63, 0, 1);
        due("bad()", log.bad(), 63);
    }

    private void badLeast() {
        sentence("promise 17", "The least BLOCK");
        SegmentLog log = fullOfLog(64);
        log.sync();
        for (int b = 63; b >= 2; b--) {
            log.poke(b, b, 1);
            due("bad()", log.bad(), b);
        }
        for (int b = 2; b <= 63; b++) {
            log.poke(b, b, 1);
            due("bad()", log.bad(), b < 63 ? b + 1 : NONE);
        }
    }

    private void badNone() {
        sentence("promise 17", "NONE.");
        due("bad(), an empty store", new SegmentLog().bad(), NONE);
        due("bad()", busy().bad(), NONE);
        SegmentLog merged = withFiles(16, 6);
        due("bad(), merged", merged.bad(), NONE);
    }

    private void badClosed() {
        sentence("promise 17", "CLOSED.");
        SegmentLog log = closed(busy());
        dueRefused("bad()", log, log::bad, CLOSED);
    }

    private void queuedFirstAndLast() {
        sentence("promise 18", "BLOCK i of the QUEUE: its number");
        SegmentLog log = fullOfLog(64);
        for (int i = 0; i < 62; i++) {
            due("queued(" + i + ")", log.queued(i), i + 2);
        }
        due("queued(62)", log.queued(62), NONE);
        due("queued(63)", log.queued(63), NONE);
        due("queued(64)", log.queued(64), NONE);
    }

    private void queuedNone() {
        sentence("promise 18", "NONE.");
        SegmentLog empty = new SegmentLog();
        due("queued(0), an empty QUEUE", empty.queued(0), NONE);
        SegmentLog log = busy();
        dueQueue(log, 5);
        due("queued(-1)", log.queued(-1), NONE);
        for (int far : FAR) {
            due("queued(" + far + ")", log.queued(far), NONE);
        }
        log.sync();
        dueQueue(log);
    }

    private void queuedClosed() {
        sentence("promise 18", "CLOSED.");
        SegmentLog log = closed(busy());
        for (int i : new int[] {-1, 0, 1, 64, Integer.MIN_VALUE, Integer.MAX_VALUE}) {
            due("queued(" + i + ")", log.queued(i), CLOSED);
        }
    }

    private void countEmpty() {
        sentence("promise 19", "How many .. (an empty store)");
        for (int n : new int[] {4, 64}) {
            dueCounts(formatted(n), n, n - 2, 0, 0, 0, 0, 0, 0, 1, 1, 0);
        }
    }

    private void countFull() {
        sentence("promise 19", "How many .. (a full store)");
        SegmentLog log = fullOfLog(64);
        adds(log, 1, 2);
        dueCounts(log, 64, 0, 0, 188, 2, 62, 62, 0, 189, 1, 0);
        SegmentLog five = withFiles(8, 5);
        adds(five, 1, 5);
        dueCounts(five, 8, 0, 5, 10, 2, 1, 1, 5, 11, 1, 5);
    }

    private void countBad() {
        sentence("promise 19", "BAD.");
        SegmentLog log = busy();
        SegmentLog shut = closed(busy());
        for (int what : new int[] {-1, -2, 11, 12, 16, 256}) {
            due("count(" + what + ")", log.count(what), BAD);
            due("count(" + what + "), closed", shut.count(what), BAD);
        }
        for (int far : FAR) {
            due("count(" + far + ")", log.count(far), BAD);
            due("count(" + far + "), closed", shut.count(far), BAD);
        }
    }

    private void countClosed() {
        sentence("promise 19", "(CLOSED: 0 but 0 and 9.)");
        for (int n : new int[] {4, 16, 64}) {
            SegmentLog log = formatted(n);
            adds(log, 1, 3);
            log.commit(-1);
            adds(log, 1, 2);
            log.crash(0);
            dueCounts(log, n, 0, 0, 0, 0, 0, 0, 0, 0, 0, 0);
            log.open();
            due("count(9), open", log.count(9), 1);
        }
    }

    /** The calls in the order of the document, each with what it answers on a store that is CLOSED. */
    private void wrongArgumentsWhileClosed() {
        part("promises 3 to 18, all that is said of a store that is CLOSED");
        SegmentLog log = closed(busy());
        long[] before = everything(log);
        dueClosed("add", () -> log.add(0, 0));
        dueClosed("flush", log::flush);
        dueClosed("sync", log::sync);
        dueClosed("commit", () -> log.commit(-1));
        dueClosed("crash", () -> log.crash(0));
        dueClosed("acknowledged", log::acknowledged);
        due("get", log.get(1), 0);
        dueClosed("times", () -> log.times(1));
        due("record", log.record(0, 0), 0);
        dueClosed("file", () -> log.file(0, 0));
        dueClosed("use", () -> log.use(0));
        due("octet", log.octet(1, 0), 3);
        due("poke", log.poke(1, 0, 1), 2);
        due("poke", log.poke(1, 0, 1), 3);
        dueClosed("bad", log::bad);
        dueClosed("queued", () -> log.queued(0));
        check.dueTrue("nothing is changed", Arrays.equals(before, everything(log)));
        due("open", log.open(), 8);
    }
}
