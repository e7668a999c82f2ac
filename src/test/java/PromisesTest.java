/** The promises of the document, one by one: ordinary inputs, edges, wrong inputs. */
public final class PromisesTest extends Steps {
    public static void main(String[] args) {
        PromisesTest test = new PromisesTest();
        test.newObject();
        test.format();
        test.formatFromClosed();
        test.add();
        test.addWhenFull();
        test.flush();
        test.flushWhenFull();
        test.sync();
        test.commit();
        test.commitBytes();
        test.commitMerges();
        test.commitOrder();
        test.commitTakesLeastRun();
        test.commitWhenFull();
        test.commitWithPowerFailing();
        test.crash();
        test.crashTearsBlock();
        test.openBasics();
        test.openChoosesHead();
        test.openRefusesHeads();
        test.openRefusesFilesOfHeads();
        test.openTellsBlocksBehindTheDisk();
        test.openTellsTheEndOfTheDisk();
        test.openFindsWrongFileBlocks();
        test.openReplaysLog();
        test.openKeepsWholeRecords();
        test.openWipesOldLog();
        test.openNumbersFiles();
        test.acknowledged();
        test.get();
        test.times();
        test.record();
        test.file();
        test.use();
        test.octet();
        test.poke();
        test.pokeIsSeenByOpenAlone();
        test.bad();
        test.queued();
        test.count();
        test.countClosed();
        test.check.end();
    }

    private void newObject() {
        part("promise 1");
        SegmentLog log = new SegmentLog();
        dueCounts(log, 16, 14, 0, 0, 0, 0, 0, 0, 1, 1, 0);
        dueZeroDisk(log, 16);
        due("octet(16, 0)", log.octet(16, 0), BAD);
        due("open()", log.open(), TURN);
    }

    private void format() {
        part("promise 2");
        SegmentLog log = new SegmentLog();
        adds(log, 1, 6);
        log.commit(-1);
        adds(log, 7, 7);
        log.commit(-1);
        adds(log, 8, 12);
        for (int n : new int[] {3, 65, 0, -1, -4, 128, Integer.MIN_VALUE, Integer.MAX_VALUE}) {
            due("format(" + n + ")", log.format(n), BAD);
        }
        dueCounts(log, 16, 10, 2, 12, 2, 1, 1, 2, 13, 1, 2);
        due("format(4)", log.format(4), 0);
        dueCounts(log, 4, 2, 0, 0, 0, 0, 0, 0, 1, 1, 0);
        dueZeroDisk(log, 4);
        due("get(1)", log.get(1), 0);
        due("record(0, 0)", log.record(0, 0), 0);
        due("use(2)", log.use(2), 0);
        due("acknowledged()", log.acknowledged(), 0);
        due("format(64)", log.format(64), 0);
        dueCounts(log, 64, 62, 0, 0, 0, 0, 0, 0, 1, 1, 0);
        dueZeroDisk(log, 64);
        due("add(1, 2)", log.add(1, 2), 1);
        due("commit(-1)", log.commit(-1), 1);
        due("file(0, 0)", log.file(0, 0), 1);
    }

    private void formatFromClosed() {
        part("promise 2, closed");
        SegmentLog log = new SegmentLog();
        adds(log, 1, 3);
        log.commit(-1);
        log.crash(0);
        due("format(3)", log.format(3), BAD);
        due("count(9)", log.count(9), 0);
        due("format(5)", log.format(5), 0);
        dueCounts(log, 5, 3, 0, 0, 0, 0, 0, 0, 1, 1, 0);
        dueZeroDisk(log, 5);
        due("crash(0)", log.crash(0), 0);
        due("open()", log.open(), 0);
    }

    private void add() {
        part("promise 3");
        SegmentLog log = new SegmentLog();
        due("add", log.add(-5, Long.MIN_VALUE), 1);
        due("add", log.add(Long.MAX_VALUE, 0x0102030405060708L), 2);
        dueCounts(log, 16, 14, 0, 2, 2, 0, 0, 0, 3, 1, 0);
        due("add", log.add(0, -1), 3);
        dueCounts(log, 16, 13, 0, 3, 0, 1, 1, 0, 4, 1, 0);
        due("queued(0)", log.queued(0), 2);
        dueZeroBlock(log, 2);
        log.sync();
        dueBytes(log, 2, 1, 3, 1, 0, 0, 0, 0, 0,
            251, 255, 255, 255, 255, 255, 255, 255, 0, 0, 0, 0, 0, 0, 0, 128,
            255, 255, 255, 255, 255, 255, 255, 127, 8, 7, 6, 5, 4, 3, 2, 1,
            0, 0, 0, 0, 0, 0, 0, 0, 255, 255, 255, 255, 255, 255, 255, 255);
        adds(log, 1, 3);
        log.sync();
        due("octet(3, 2)", log.octet(3, 2), 4);
        log.crash(0);
        due("add, closed", log.add(1, 1), CLOSED);
    }

    private void addWhenFull() {
        part("promise 3, full");
        SegmentLog log = formatted(4);
        adds(log, 1, 8);
        due("count(1)", log.count(1), 0);
        due("add", log.add(9, 9), FULL);
        due("add", log.add(9, 9), FULL);
        dueCounts(log, 4, 0, 0, 8, 2, 2, 2, 0, 9, 1, 0);
        due("get(9)", log.get(9), 0);
    }

    private void flush() {
        part("promise 4");
        SegmentLog log = new SegmentLog();
        due("flush()", log.flush(), 0);
        due("count(6)", log.count(6), 0);
        log.add(4, 5);
        due("flush()", log.flush(), 1);
        due("flush()", log.flush(), 0);
        adds(log, 1, 2);
        due("flush()", log.flush(), 2);
        dueCounts(log, 16, 12, 0, 3, 0, 2, 2, 0, 4, 1, 0);
        adds(log, 1, 3);
        due("flush()", log.flush(), 0);
        log.sync();
        dueBytes(log, 2, 1, 1, 1, 0, 0, 0, 0, 0, 4, 0, 0, 0, 0, 0, 0, 0, 5);
        dueBytes(log, 3, 1, 2, 2, 0, 0, 0, 0, 0, 1, 0, 0, 0, 0, 0, 0, 0, 10, 0, 0, 0, 0, 0, 0, 0,
            2, 0, 0, 0, 0, 0, 0, 0, 20);
        log.crash(0);
        due("flush(), closed", log.flush(), CLOSED);
    }

    private void flushWhenFull() {
        part("promise 4, full");
        SegmentLog log = formatted(4);
        adds(log, 1, 6);
        due("flush()", log.flush(), 0);
        log.add(7, 70);
        due("flush()", log.flush(), FULL);
        dueCounts(log, 4, 0, 0, 7, 1, 2, 2, 0, 8, 1, 0);
    }

    private void sync() {
        part("promise 5");
        SegmentLog log = new SegmentLog();
        due("sync()", log.sync(), 0);
        adds(log, 1, 8);
        due("sync()", log.sync(), 2);
        due("count(6)", log.count(6), 0);
        due("count(4)", log.count(4), 2);
        due("sync()", log.sync(), 0);
        due("octet(2, 0)", log.octet(2, 0), 1);
        due("octet(3, 0)", log.octet(3, 0), 1);
        due("octet(4, 0)", log.octet(4, 0), 0);
        log.crash(0);
        due("sync(), closed", log.sync(), CLOSED);
        due("open()", log.open(), 6);
        adds(log, 1, 3);
        due("sync()", log.sync(), 1);
    }

    private void commit() {
        part("promise 6");
        SegmentLog log = new SegmentLog();
        due("commit(-1)", log.commit(-1), 0);
        due("commit(0)", log.commit(0), 0);
        due("count(9)", log.count(9), 1);
        for (int n : new int[] {-2, -3, Integer.MIN_VALUE}) {
            due("commit(" + n + ")", log.commit(n), BAD);
        }
        adds(log, 1, 4);
        due("commit(-2)", log.commit(-2), BAD);
        due("commit(-1)", log.commit(-1), 1);
        dueCounts(log, 16, 12, 1, 4, 0, 0, 0, 1, 5, 1, 1);
        dueFile(log, 0, 1, 3, 2, 4);
        due("use(2)", log.use(2), 0);
        due("commit(-1)", log.commit(-1), 0);
        log.add(9, 9);
        log.flush();
        due("commit(-1)", log.commit(-1), 2);
        dueCounts(log, 16, 11, 2, 5, 0, 0, 0, 2, 6, 1, 2);
        dueFile(log, 1, 2, 5, 1, 1);
        dueFile(log, 0, 1, 3, 2, 4);
        log.crash(0);
        due("commit(-1), closed", log.commit(-1), CLOSED);
        due("commit(5), closed", log.commit(5), CLOSED);
    }

    private void commitBytes() {
        part("promise 6, bytes");
        SegmentLog log = new SegmentLog();
        log.add(2, 7);
        log.add(-1, 8);
        log.add(1, 9);
        log.add(258, 10);
        log.commit(-1);
        dueBytes(log, 3, 2, 3, 1, 0, 0, 0, 2, 0,
            255, 255, 255, 255, 255, 255, 255, 255, 8, 0, 0, 0, 0, 0, 0, 0,
            1, 0, 0, 0, 0, 0, 0, 0, 9, 0, 0, 0, 0, 0, 0, 0,
            2, 0, 0, 0, 0, 0, 0, 0, 7);
        dueBytes(log, 4, 2, 1, 1, 0, 1, 0, 2, 0, 2, 1, 0, 0, 0, 0, 0, 0, 10);
        due("octet(0, 0)", log.octet(0, 0), 0);
        dueBytes(log, 1, 3, 1, 1, 0, 0, 0, 0, 0, 1, 0, 3, 0, 2, 0, 4, 0,
            0, 0, 0, 0, 0, 0, 0, 0, 0, 0, 0, 0, 0, 0, 0, 0, 0, 0, 0, 0, 0, 0, 0, 0, 0, 0, 0, 0, 0, 0, 0, 0, 5);
        due("octet(2, 0): the LOG BLOCK stays on THE DISK", log.octet(2, 0), 1);
        log.add(5, 5);
        log.commit(-1);
        dueBytes(log, 0, 3, 2, 2, 0, 0, 0, 0, 0, 1, 0, 3, 0, 2, 0, 4, 0, 2, 0, 2, 0, 1, 0, 1, 0,
            0, 0, 0, 0, 0, 0, 0, 0, 0, 0, 0, 0, 0, 0, 0, 0, 0, 0, 0, 0, 0, 0, 0, 0, 6);
    }

    private void commitMerges() {
        part("promise 6, merge");
        SegmentLog log = new SegmentLog();
        for (int i = 1; i <= 5; i++) {
            adds(log, 1, 1);
            due("commit " + i, log.commit(-1), i);
            due("count(2)", log.count(2), i);
        }
        due("use(6)", log.use(6), 2);
        due("commit(-1), all in FILES", log.commit(-1), 0);
        due("count(2)", log.count(2), 5);
        adds(log, 1, 3);
        due("commit 6", log.commit(-1), 6);
        dueFile(log, 0, 6, 8, 3, 8);
        dueCounts(log, 16, 11, 1, 8, 0, 0, 0, 6, 9, 1, 6);
        for (int b = 2; b <= 7; b++) {
            due("use(" + b + ")", log.use(b), 0);
        }
        adds(log, 1, 1);
        due("commit 7", log.commit(-1), 7);
        dueFile(log, 1, 7, 2, 1, 1);
        log.crash(0);
        due("open()", log.open(), 9);
        due("count(2)", log.count(2), 2);
    }

    private void commitOrder() {
        part("promise 6, order");
        SegmentLog log = new SegmentLog();
        log.add(5, 1);
        log.add(3, 2);
        log.add(5, 3);
        log.add(3, 4);
        log.commit(-1);
        for (int i = 0; i < 4; i++) {
            log.add(5 - i, 10 + i);
            log.commit(-1);
        }
        due("count(2)", log.count(2), 5);
        log.add(5, 20);
        log.add(Long.MIN_VALUE, 21);
        log.add(3, 22);
        log.add(Long.MAX_VALUE, 23);
        log.add(-1, 24);
        log.commit(-1);
        long[] keys = {Long.MIN_VALUE, -1, 2, 3, 3, 3, 3, 4, 5, 5, 5, 5, Long.MAX_VALUE};
        long[] values = {21, 24, 13, 2, 4, 12, 22, 11, 1, 3, 10, 20, 23};
        dueRecordsOnDisk(log, log.file(0, 1), keys, values);
        log.crash(0);
        due("open()", log.open(), keys.length);
        for (int i = 0; i < keys.length; i++) {
            due("record(" + i + ", 0)", log.record(i, 0), keys[i]);
            due("record(" + i + ", 1)", log.record(i, 1), values[i]);
        }
    }

    private void commitTakesLeastRun() {
        part("promise 6, run");
        SegmentLog log = formatted(12);
        adds(log, 1, 6);
        log.commit(-1);
        dueFile(log, 0, 1, 4, 2, 6);
        adds(log, 1, 1);
        log.commit(-1);
        dueFile(log, 1, 2, 2, 1, 1);
        adds(log, 1, 3);
        due("queued(0)", log.queued(0), 3);
        adds(log, 4, 4);
        log.commit(-1);
        dueFile(log, 2, 3, 6, 2, 4);
        due("use(3)", log.use(3), 0);
        adds(log, 1, 2);
        log.commit(-1);
        dueFile(log, 3, 4, 3, 1, 2);
        adds(log, 1, 12);
        due("count(1)", log.count(1), 0);
        due("commit(-1)", log.commit(-1), FULL);
    }

    private void commitWhenFull() {
        part("promise 6, full");
        SegmentLog log = formatted(6);
        adds(log, 1, 7);
        dueCounts(log, 6, 2, 0, 7, 1, 2, 2, 0, 8, 1, 0);
        due("commit(-1)", log.commit(-1), FULL);
        due("commit(0)", log.commit(0), FULL);
        due("commit(-2)", log.commit(-2), BAD);
        dueCounts(log, 6, 2, 0, 7, 1, 2, 2, 0, 8, 1, 0);
        dueZeroDisk(log, 6);
        SegmentLog fits = formatted(6);
        adds(fits, 1, 6);
        due("commit(-1)", fits.commit(-1), 1);
        dueFile(fits, 0, 1, 4, 2, 6);
        due("count(1)", fits.count(1), 2);
    }

    /** A LOG BLOCK is in the QUEUE, then two of the FILE, then the HEAD: 256 bytes. */
    private void commitWithPowerFailing() {
        part("promise 6, power");
        for (int n = 0; n <= 300; n++) {
            SegmentLog log = new SegmentLog();
            adds(log, 1, 2);
            log.commit(-1);
            adds(log, 3, 6);
            boolean fails = n < 256;
            due("commit(" + n + ")", log.commit(n), fails ? NONE : 2);
            due("count(9)", log.count(9), fails ? 0 : 1);
            due("count(6)", log.count(6), 0);
            due("octet(3, 0), LOG", log.octet(3, 0), n > 0 ? 1 : 0);
            due("octet(4, 0), FILE", log.octet(4, 0), n > 64 ? 2 : 0);
            due("octet(5, 0), FILE", log.octet(5, 0), n > 128 ? 2 : 0);
            due("octet(0, 0), HEAD", log.octet(0, 0), n > 192 ? 3 : 0);
            if (fails) {
                check.dueTrue("LOG whole", Forge.whole(log, 3) == n >= 64);
                check.dueTrue("FILE whole", Forge.whole(log, 4) == n >= 128 && Forge.whole(log, 5) == n >= 192);
                due("open()", log.open(), n < 64 ? 2 : 5);
                due("count(7)", log.count(7), 1);
                due("count(10)", log.count(10), 1);
                due("count(2)", log.count(2), 1);
            }
        }
    }

    private void crash() {
        part("promise 7");
        SegmentLog log = new SegmentLog();
        for (int n : new int[] {-1, -64, Integer.MIN_VALUE}) {
            due("crash(" + n + ")", log.crash(n), BAD);
        }
        due("count(9)", log.count(9), 1);
        adds(log, 1, 11);
        due("crash(128)", log.crash(128), 2);
        due("crash(0), closed", log.crash(0), CLOSED);
        due("crash(-1), closed", log.crash(-1), BAD);
        due("open()", log.open(), 6);
        due("count(4)", log.count(4), 0);
        adds(log, 1, 10);
        due("crash(MAX)", log.crash(Integer.MAX_VALUE), 3);
        due("open()", log.open(), 15);
        adds(log, 1, 3);
        due("crash(64)", log.crash(64), 1);
        due("open()", log.open(), 18);
        adds(log, 1, 3);
        due("crash(65)", log.crash(65), 1);
    }

    private void crashTearsBlock() {
        part("promise 7, torn");
        for (int n = 0; n <= 130; n++) {
            SegmentLog log = new SegmentLog();
            for (int i = 0; i < 6; i++) {
                log.add(-1, -1);
            }
            due("crash(" + n + ")", log.crash(n), n / 64);
            for (int i = 8; i < 56; i++) {
                due("octet(2, " + i + ")", log.octet(2, i), i < n ? 255 : 0);
                due("octet(3, " + i + ")", log.octet(3, i), i + 64 < n ? 255 : 0);
            }
            due("open()", log.open(), 3 * (n / 64));
        }
    }

    private void openBasics() {
        part("promise 8");
        SegmentLog log = new SegmentLog();
        due("open()", log.open(), TURN);
        log.crash(0);
        due("open()", log.open(), 0);
        due("open()", log.open(), TURN);
        dueCounts(log, 16, 14, 0, 0, 0, 0, 0, 0, 1, 1, 0);
        adds(log, 1, 7);
        log.commit(-1);
        adds(log, 8, 12);
        log.crash(64);
        due("open()", log.open(), 10);
        dueCounts(log, 16, 10, 1, 10, 0, 1, 0, 1, 11, 1, 1);
        due("get(7)", log.get(7), 70);
        due("get(10)", log.get(10), 100);
        due("get(11)", log.get(11), 0);
        due("use(2)", log.use(2), 1);
        due("use(4)", log.use(4), 2);
        due("record(6, 2)", log.record(6, 2), 0);
        due("record(7, 2)", log.record(7, 2), 1);
        due("add", log.add(1, 1), 11);
        due("commit(-1)", log.commit(-1), 2);
    }

    private void openChoosesHead() {
        part("promise 8, the greater HEAD");
        SegmentLog log = new SegmentLog();
        for (int g = 1; g <= 3; g++) {
            adds(log, g, g);
            log.commit(-1);
            log.crash(0);
            due("open()", log.open(), g);
            due("count(7)", log.count(7), g);
        }
        log.poke(1, 30, 1);
        log.crash(0);
        due("open() by the HEAD before", log.open(), 2);
        due("count(7)", log.count(7), 2);
        due("count(8)", log.count(8), 3);
        due("bad()", log.bad(), NONE);
        adds(log, 8, 8);
        due("commit(-1)", log.commit(-1), 3);
        log.poke(0, 60, 4);
        log.crash(0);
        due("open()", log.open(), 3);
        log.poke(1, 60, 4);
        log.crash(0);
        due("open() without a HEAD", log.open(), 0);
        dueCounts(log, 16, 14, 0, 0, 0, 0, 0, 0, 1, 1, 0);
    }

    private void dueHead(String what, boolean counts, long generation, long next, int... files) {
        SegmentLog log = closed(new SegmentLog());
        Forge.head(log, (int) (generation & 1), generation, next, files);
        log.open();
        due(what, log.count(7), counts ? generation : 0);
        due(what + ": next SEQUENCE", log.count(8), counts ? next : 1);
    }

    private void openRefusesHeads() {
        part("promise 8, what a HEAD must be");
        dueHead("plain", true, 1, 1);
        dueHead("even", true, 2, 7);
        dueHead("greatest", true, 1000000000, 1000000000);
        dueHead("GENERATION 0", false, 0, 5);
        dueHead("GENERATION too great", false, 1000000001, 5);
        dueHead("GENERATION of six bytes", false, 0x010000000001L, 5);
        dueHead("next SEQUENCE 0", false, 1, 0);
        dueHead("next SEQUENCE too great", false, 1, 1000000001);
        dueHead("next SEQUENCE of eight bytes", false, 1, 0x0100000000000001L);
        dueHead("next SEQUENCE below 0", false, 1, -1);
        SegmentLog wrongBlock = closed(new SegmentLog());
        Forge.head(wrongBlock, 0, 3, 9);
        Forge.head(wrongBlock, 1, 4, 9);
        due("open()", wrongBlock.open(), 0);
        due("HEADS in the wrong BLOCKS", wrongBlock.count(7), 0);
        SegmentLog wrongSort = closed(new SegmentLog());
        Forge.head(wrongSort, 1, 3, 9);
        Forge.change(wrongSort, 1, 0, 1, 2);
        wrongSort.open();
        due("SORT 2", wrongSort.count(7), 0);
        SegmentLog manyFiles = closed(formatted(64));
        Forge.head(manyFiles, 1, 3, 9);
        Forge.change(manyFiles, 1, 1, 1, 6);
        due("open()", manyFiles.open(), 0);
        due("six FILES", manyFiles.count(7), 0);
    }

    /** No FILE's BLOCK is right here: a HEAD that counts is seen by the BLOCK that open() tells. */
    private void dueFiles(String what, int answer, int... files) {
        for (int generation = 1; generation <= 2; generation++) {
            SegmentLog log = closed(new SegmentLog());
            Forge.head(log, generation % 2, generation, 9, files);
            due(what, log.open(), answer);
            due(what + ": FILES", log.count(2), 0);
        }
    }

    private void openRefusesFilesOfHeads() {
        part("promise 8, what FILES of a HEAD must be");
        dueFiles("one", -10 - 2, 1, 2, 1, 1);
        dueFiles("at the end", -10 - 15, 1, 15, 1, 3);
        dueFiles("all BLOCKS", -10 - 2, 1, 2, 14, 42);
        dueFiles("in BLOCK 1", 0, 1, 1, 1, 1);
        dueFiles("in BLOCK 0", 0, 1, 0, 1, 1);
        dueFiles("no BLOCK", 0, 1, 2, 0, 0);
        dueFiles("no record", 0, 1, 2, 1, 0);
        dueFiles("three records", -10 - 2, 1, 2, 1, 3);
        dueFiles("four records", 0, 1, 2, 1, 4);
        dueFiles("three for two BLOCKS", 0, 1, 2, 2, 3);
        dueFiles("four for two BLOCKS", -10 - 2, 1, 2, 2, 4);
        dueFiles("six for two BLOCKS", -10 - 2, 1, 2, 2, 6);
        dueFiles("seven for two BLOCKS", 0, 1, 2, 2, 7);
        dueFiles("beside one another", -10 - 4, 1, 4, 2, 4, 2, 2, 2, 4, 3, 6, 1, 1);
        dueFiles("the same", 0, 1, 4, 2, 4, 2, 4, 2, 4);
        dueFiles("over the first BLOCK", 0, 1, 4, 2, 4, 2, 3, 2, 4);
        dueFiles("over the last BLOCK", 0, 1, 4, 2, 4, 2, 5, 2, 4);
        dueFiles("inside", 0, 1, 4, 3, 7, 2, 5, 1, 1);
        dueFiles("around", 0, 1, 5, 1, 1, 2, 4, 3, 7);
        dueFiles("five", -10 - 9, 1, 9, 1, 1, 2, 2, 1, 1, 3, 3, 1, 1, 4, 4, 1, 1, 5, 5, 1, 1);
        dueFiles("the fifth over the first", 0, 1, 9, 1, 1, 2, 2, 1, 1, 3, 3, 1, 1, 4, 4, 1, 1, 5, 9, 1, 1);
    }

    /** That its FILES end on THE DISK is nothing that a HEAD must fulfil to count. */
    private void openTellsBlocksBehindTheDisk() {
        part("promise 8, FILES behind THE DISK");
        dueFiles("the first BLOCK behind", -10 - 16, 1, 16, 1, 1);
        dueFiles("BLOCK 60", -10 - 60, 1, 60, 1, 1);
        dueFiles("BLOCK 64", -10 - 64, 1, 64, 1, 3);
        dueFiles("the greatest BLOCK", -10 - 65535, 1, 65535, 1, 1);
        dueFiles("the longest FILE", -10 - 65535, 1, 65535, 21845, 65535);
        dueFiles("too many BLOCKS for the records", 0, 1, 65535, 65535, 65535);
        dueFiles("four records", 0, 1, 60, 1, 4);
        dueFiles("over the end", -10 - 15, 1, 15, 2, 4);
        dueFiles("two over one another", 0, 1, 60, 2, 4, 2, 61, 1, 1);
        dueFiles("two beside one another", -10 - 60, 1, 60, 2, 4, 2, 62, 1, 1);
        dueFiles("FILE by FILE", -10 - 60, 1, 60, 1, 1, 2, 2, 1, 1);
        part("promise 8, the greater HEAD with a FILE behind THE DISK");
        SegmentLog log = new SegmentLog();
        adds(log, 1, 4);
        log.commit(-1);
        log.crash(0);
        Forge.head(log, 0, 2, 9, 1, 3, 2, 4, 2, 40, 1, 1);
        due("open()", log.open(), -10 - 40);
        dueCounts(log, 16, 0, 0, 0, 0, 0, 0, 0, 0, 0, 0);
        due("octet(2, 0): no old LOG is wiped", log.octet(2, 0), 1);
        due("open()", log.open(), -10 - 40);
        log.poke(0, 63, 1);
        due("open() by the HEAD before", log.open(), 4);
    }

    /** All BLOCKS of the FILE that are on THE DISK are right, so that the first behind it is told. */
    private void openTellsTheEndOfTheDisk() {
        part("promise 8, a FILE over the end of THE DISK");
        for (int n : new int[] {4, 16, 64}) {
            SegmentLog log = closed(formatted(n));
            Forge.head(log, 1, 1, 9, 1, n - 2, 3, 7);
            Forge.fileBlock(log, n - 2, 1, 0, 3, 3, 1);
            Forge.fileBlock(log, n - 1, 1, 1, 3, 3, 4);
            due("open(), " + n + " BLOCKS", log.open(), -10 - n);
            due("count(9)", log.count(9), 0);
            Forge.head(log, 1, 1, 9, 1, n - 2, 2, 6);
            Forge.fileBlock(log, n - 2, 1, 0, 2, 3, 1);
            Forge.fileBlock(log, n - 1, 1, 1, 2, 3, 4);
            due("open(), up to the end", log.open(), 6);
        }
        part("promise 8, a HEAD of another DISK");
        SegmentLog log = formatted(64);
        log.format(8);
        log.crash(0);
        Forge.head(log, 1, 1, 2, 1, 8, 1, 1);
        due("open()", log.open(), -10 - 8);
        due("format(8)", log.format(8), 0);
        dueCounts(log, 8, 6, 0, 0, 0, 0, 0, 0, 1, 1, 0);
        due("add", log.add(1, 1), 1);
        due("commit(-1)", log.commit(-1), 1);
    }

    private void openFindsWrongFileBlocks() {
        part("promise 8, BLOCKS of FILES");
        dueWrongFileBlock("not WHOLE, byte 20", 3, 20, 0);
        dueWrongFileBlock("not WHOLE, SUM", 4, 63, 0);
        dueWrongFileBlock("SORT", 3, 0, 1);
        dueWrongFileBlock("records", 4, 1, 1);
        dueWrongFileBlock("records", 3, 1, 1);
        dueWrongFileBlock("number", 4, 2, 1);
        dueWrongFileBlock("number, high", 4, 3, 1);
        dueWrongFileBlock("place", 4, 4, 1);
        dueWrongFileBlock("place, high", 4, 5, 1);
        dueWrongFileBlock("BLOCKS", 3, 6, 1);
        dueWrongFileBlock("BLOCKS, high", 3, 7, 1);
        part("promise 8, FILE by FILE");
        SegmentLog log = formatted(12);
        adds(log, 1, 6);
        log.commit(-1);
        adds(log, 1, 2);
        log.commit(-1);
        dueFile(log, 0, 1, 4, 2, 6);
        dueFile(log, 1, 2, 2, 1, 2);
        log.poke(2, 9, 1);
        log.crash(0);
        due("open()", log.open(), -10 - 2);
        log.poke(5, 9, 1);
        due("open(): of the older FILE", log.open(), -10 - 5);
        due("count(9)", log.count(9), 0);
        dueCounts(log, 12, 0, 0, 0, 0, 0, 0, 0, 0, 0, 0);
        due("add", log.add(1, 1), CLOSED);
        due("octet(3, 0): no old LOG is wiped", log.octet(3, 0), 1);
        log.poke(5, 9, 1);
        log.poke(2, 9, 1);
        due("open()", log.open(), 8);
    }

    /** FILE 1 has BLOCKS 3 and 4, with four records; a LOG BLOCK that is no more of use is in 2. */
    private void dueWrongFileBlock(String what, int block, int at, int sealed) {
        SegmentLog log = new SegmentLog();
        adds(log, 1, 4);
        log.commit(-1);
        log.crash(0);
        log.poke(block, at, 1);
        if (sealed == 1) {
            Forge.seal(log, block);
        }
        due(what, log.open(), -10 - block);
        due(what + ": count(9)", log.count(9), 0);
        due(what + ": octet(2, 0)", log.octet(2, 0), 1);
        log.poke(block, at, 1);
        Forge.seal(log, block);
        due(what + ", mended", log.open(), 4);
        due(what + ": octet(2, 0)", log.octet(2, 0), 0);
    }

    private void openReplaysLog() {
        part("promise 8, LOG");
        SegmentLog log = closed(new SegmentLog());
        Forge.logBlock(log, 9, 2, 1);
        Forge.logBlock(log, 5, 3, 3);
        Forge.logBlock(log, 15, 1, 6);
        Forge.logBlock(log, 7, 1, 8);
        due("open(): 7 is not there", log.open(), 6);
        due("count(8)", log.count(8), 7);
        due("count(5)", log.count(5), 3);
        due("get(5)", log.get(5), 5);
        due("use(7)", log.use(7), 0);
        dueZeroBlock(log, 7);
        due("acknowledged()", log.acknowledged(), 6);
        due("count(4)", log.count(4), 0);
        due("count(6)", log.count(6), 0);
        part("promise 8, the least LOG BLOCK");
        SegmentLog two = closed(new SegmentLog());
        Forge.logBlock(two, 8, 3, 1);
        Forge.logBlock(two, 6, 2, 1);
        Forge.logBlock(two, 4, 1, 3);
        Forge.logBlock(two, 3, 1, 4);
        due("open()", two.open(), 4);
        due("use(6)", two.use(6), 1);
        due("use(8)", two.use(8), 0);
        dueZeroBlock(two, 8);
        part("promise 8, LOG behind a HEAD");
        SegmentLog behind = closed(new SegmentLog());
        Forge.head(behind, 1, 1, 10, 4, 6, 1, 2);
        Forge.fileBlock(behind, 6, 4, 0, 1, 2, 50);
        Forge.logBlock(behind, 3, 3, 0x01000000000AL);
        Forge.logBlock(behind, 4, 2, 10);
        Forge.logBlock(behind, 5, 3, 7);
        due("open()", behind.open(), 4);
        due("record(0, 0)", behind.record(0, 0), 10);
        due("record(3, 0)", behind.record(3, 0), 51);
        due("count(8)", behind.count(8), 12);
        dueZeroBlock(behind, 3);
        dueZeroBlock(behind, 5);
    }

    private void openKeepsWholeRecords() {
        part("promise 8, records");
        SegmentLog log = new SegmentLog();
        long[] values = {Long.MIN_VALUE, -1, 0x0102030405060708L, Long.MAX_VALUE, -256, 255};
        for (int i = 0; i < 3; i++) {
            log.add(-values[i], values[i]);
        }
        log.commit(-1);
        for (int i = 3; i < 6; i++) {
            log.add(-values[i], values[i]);
        }
        log.crash(64);
        due("open()", log.open(), 6);
        for (long value : values) {
            due("get(" + -value + ")", log.get(-value), value);
        }
        log.add(0, 1);
        int[] places = {0, 0};
        for (int i = 0; i < 7; i++) {
            long place = log.record(i, 2);
            check.dueTrue("place " + place, place >= 0 && place <= 2);
            if (place < 2) {
                places[(int) place]++;
            }
        }
        due("records in FILES", places[0], 3);
        due("records in LOG", places[1], 3);
    }

    private void openWipesOldLog() {
        part("promise 8, LOG that does not count");
        SegmentLog log = closed(new SegmentLog());
        Forge.logBlock(log, 2, 0, 1);
        Forge.logBlock(log, 3, 4, 1);
        Forge.logBlock(log, 4, 255, 1);
        Forge.logBlock(log, 5, 1, 0);
        Forge.fileBlock(log, 6, 1, 0, 1, 1, 1);
        Forge.logBlock(log, 7, 1, 1);
        log.poke(7, 40, 1);
        Forge.logBlock(log, 8, 1, 1);
        Forge.change(log, 8, 0, 1, 4);
        Forge.head(log, 9, 9, 1);
        due("open()", log.open(), 0);
        for (int b = 2; b <= 5; b++) {
            dueZeroBlock(log, b);
        }
        due("octet(6, 0): of SORT 2", log.octet(6, 0), 2);
        due("octet(7, 0): not WHOLE", log.octet(7, 0), 1);
        due("octet(8, 0): of SORT 4", log.octet(8, 0), 4);
        due("octet(9, 0): of SORT 3", log.octet(9, 0), 3);
        due("count(1)", log.count(1), 14);
        part("promise 8, LOG of before a COMMIT");
        SegmentLog old = new SegmentLog();
        adds(old, 1, 3);
        old.commit(-1);
        due("octet(2, 0)", old.octet(2, 0), 1);
        old.crash(0);
        due("open()", old.open(), 3);
        dueZeroBlock(old, 2);
        due("octet(3, 0)", old.octet(3, 0), 2);
    }

    private void openNumbersFiles() {
        part("promise 8, numbers of FILES");
        SegmentLog log = closed(new SegmentLog());
        Forge.head(log, 1, 1, 5, 9, 6, 1, 1, 4, 7, 1, 1);
        Forge.fileBlock(log, 6, 9, 0, 1, 1, 1);
        Forge.fileBlock(log, 7, 4, 0, 1, 1, 1);
        due("open()", log.open(), 2);
        due("count(10)", log.count(10), 9);
        dueFile(log, 0, 9, 6, 1, 1);
        dueFile(log, 1, 4, 7, 1, 1);
        log.add(1, 1);
        due("commit(-1)", log.commit(-1), 2);
        dueFile(log, 2, 10, 2, 1, 1);
        log.add(1, 1);
        due("commit(0)", log.commit(0), NONE);
        due("open()", log.open(), 3);
        log.add(1, 1);
        log.commit(-1);
        dueFile(log, 3, 11, 3, 1, 1);
    }

    private void acknowledged() {
        part("promise 9");
        SegmentLog log = new SegmentLog();
        due("acknowledged()", log.acknowledged(), 0);
        adds(log, 1, 4);
        due("in the QUEUE", log.acknowledged(), 0);
        log.sync();
        due("three are on THE DISK", log.acknowledged(), 3);
        adds(log, 5, 5);
        log.flush();
        due("in the QUEUE", log.acknowledged(), 3);
        adds(log, 6, 6);
        due("waits", log.acknowledged(), 3);
        log.poke(2, 20, 1);
        due("a poke is not the store's", log.acknowledged(), 3);
        log.poke(2, 20, 1);
        log.commit(-1);
        due("in a FILE", log.acknowledged(), 6);
        log.add(7, 7);
        due("waits", log.acknowledged(), 6);
        log.sync();
        due("waits still", log.acknowledged(), 6);
        log.flush();
        log.crash(64);
        due("closed", log.acknowledged(), CLOSED);
        log.open();
        due("opened", log.acknowledged(), 7);
        adds(log, 1, 3);
        due("opened, in the QUEUE", log.acknowledged(), 7);
    }

    private void get() {
        part("promise 10");
        SegmentLog log = new SegmentLog();
        due("get(0)", log.get(0), 0);
        log.add(5, 50);
        due("waits", log.get(5), 50);
        log.add(5, 51);
        log.add(-7, Long.MIN_VALUE);
        due("LOG", log.get(5), 51);
        due("LOG", log.get(-7), Long.MIN_VALUE);
        due("between", log.get(0), 0);
        log.commit(-1);
        due("FILE", log.get(5), 51);
        log.add(Long.MAX_VALUE, 1);
        log.add(Long.MIN_VALUE, 2);
        log.commit(-1);
        log.add(5, 52);
        due("waits over FILE", log.get(5), 52);
        due("greatest key", log.get(Long.MAX_VALUE), 1);
        due("least key", log.get(Long.MIN_VALUE), 2);
        due("no such", log.get(6), 0);
        log.crash(0);
        due("closed", log.get(-7), 0);
        log.open();
        due("opened", log.get(5), 51);
        log.add(5, 0);
        due("value 0", log.get(5), 0);
    }

    private void times() {
        part("promise 11");
        SegmentLog log = new SegmentLog();
        due("times(1)", log.times(1), 0);
        for (int i = 1; i <= 7; i++) {
            log.add(i % 2, i);
        }
        due("times(1)", log.times(1), 4);
        due("times(0)", log.times(0), 3);
        due("times(2)", log.times(2), 0);
        log.commit(-1);
        log.add(1, 8);
        due("times(1)", log.times(1), 5);
        log.crash(0);
        due("closed", log.times(1), CLOSED);
        log.open();
        due("times(1)", log.times(1), 4);
        log.add(Long.MAX_VALUE, 1);
        log.add(Long.MIN_VALUE, 1);
        due("times(MAX)", log.times(Long.MAX_VALUE), 1);
        due("times(MIN)", log.times(Long.MIN_VALUE), 1);
    }

    private void record() {
        part("promise 12");
        SegmentLog log = new SegmentLog();
        due("record(0, 0)", log.record(0, 0), 0);
        log.add(4, 40);
        log.add(-4, 41);
        log.commit(-1);
        log.add(4, 42);
        log.flush();
        log.add(4, 43);
        log.add(-9, 44);
        long[][] rows = {{-9, 44, 2}, {-4, 41, 0}, {4, 40, 0}, {4, 42, 1}, {4, 43, 2}};
        for (int i = 0; i < rows.length; i++) {
            for (int what = 0; what < 3; what++) {
                due("record(" + i + ", " + what + ")", log.record(i, what), rows[i][what]);
            }
            due("what 3", log.record(i, 3), 0);
            due("what -1", log.record(i, -1), 0);
        }
        for (int i : new int[] {-1, 5, 6, 1000, Integer.MIN_VALUE, Integer.MAX_VALUE}) {
            for (int what = 0; what < 3; what++) {
                due("record(" + i + ", " + what + ")", log.record(i, what), 0);
            }
        }
        log.crash(0);
        due("closed", log.record(0, 0), 0);
        due("closed", log.record(1, 1), 0);
        log.open();
        due("record(0, 0)", log.record(0, 0), -4);
    }

    private void file() {
        part("promise 13");
        SegmentLog log = new SegmentLog();
        due("file(0, 0)", log.file(0, 0), BAD);
        adds(log, 1, 5);
        log.commit(-1);
        adds(log, 1, 1);
        log.commit(-1);
        dueFile(log, 0, 1, 3, 2, 5);
        dueFile(log, 1, 2, 2, 1, 1);
        due("file(2, 0)", log.file(2, 0), BAD);
        int[][] wrong = {{-1, 0}, {5, 0}, {0, -1}, {0, 4}, {Integer.MAX_VALUE, 0}, {0, Integer.MIN_VALUE}};
        for (int[] w : wrong) {
            due("file(" + w[0] + ", " + w[1] + ")", log.file(w[0], w[1]), BAD);
        }
        log.crash(0);
        for (int[] w : wrong) {
            due("closed: file(" + w[0] + ", " + w[1] + ")", log.file(w[0], w[1]), BAD);
        }
        due("closed: file(0, 0)", log.file(0, 0), CLOSED);
        due("closed: file(4, 3)", log.file(4, 3), CLOSED);
        log.open();
        dueFile(log, 1, 2, 2, 1, 1);
    }

    private void use() {
        part("promise 14");
        SegmentLog log = formatted(7);
        adds(log, 1, 3);
        log.commit(-1);
        log.add(1, 1);
        log.flush();
        int[] uses = {3, 3, 1, 2, 0, 0, 0};
        for (int b = 0; b < uses.length; b++) {
            due("use(" + b + ")", log.use(b), uses[b]);
        }
        for (int b : new int[] {-1, 7, 16, 64, Integer.MIN_VALUE, Integer.MAX_VALUE}) {
            due("use(" + b + ")", log.use(b), BAD);
        }
        log.crash(0);
        due("closed: use(3)", log.use(3), CLOSED);
        due("closed: use(7)", log.use(7), BAD);
        log.open();
        due("use(2): what was in the QUEUE is gone", log.use(2), 0);
        due("use(3)", log.use(3), 2);
    }

    private void octet() {
        part("promise 15");
        SegmentLog log = formatted(5);
        log.add(-1, 255);
        log.flush();
        due("in the QUEUE", log.octet(2, 8), 0);
        log.sync();
        due("octet(2, 8)", log.octet(2, 8), 255);
        due("octet(2, 16)", log.octet(2, 16), 255);
        due("octet(2, 17)", log.octet(2, 17), 0);
        int[][] wrong = {{-1, 0}, {5, 0}, {0, -1}, {0, 64}, {64, 0}, {Integer.MAX_VALUE, 1}, {1, Integer.MIN_VALUE}};
        for (int[] w : wrong) {
            due("octet(" + w[0] + ", " + w[1] + ")", log.octet(w[0], w[1]), BAD);
        }
        due("octet(4, 63)", log.octet(4, 63), 0);
        log.crash(0);
        due("closed", log.octet(2, 8), 255);
        due("closed", log.octet(5, 0), BAD);
    }

    private void poke() {
        part("promise 16");
        SegmentLog log = formatted(5);
        due("poke(4, 63, 255)", log.poke(4, 63, 255), 255);
        due("poke(4, 63, 1)", log.poke(4, 63, 1), 254);
        due("octet(4, 63)", log.octet(4, 63), 254);
        due("poke(0, 0, 128)", log.poke(0, 0, 128), 128);
        due("poke(0, 0, 128)", log.poke(0, 0, 128), 0);
        int[][] wrong = {{-1, 0, 1}, {5, 0, 1}, {0, -1, 1}, {0, 64, 1}, {0, 0, 0}, {0, 0, 256}, {0, 0, -1},
            {0, 0, Integer.MIN_VALUE}, {Integer.MAX_VALUE, 0, 1}, {0, Integer.MAX_VALUE, 1}};
        for (int[] w : wrong) {
            due("poke(" + w[0] + ", " + w[1] + ", " + w[2] + ")", log.poke(w[0], w[1], w[2]), BAD);
        }
        due("octet(0, 0)", log.octet(0, 0), 0);
        log.crash(0);
        due("closed", log.poke(4, 63, 2), 252);
        due("closed", log.octet(4, 63), 252);
        log.open();
        adds(log, 1, 3);
        due("under the QUEUE", log.poke(2, 0, 64), 64);
        log.sync();
        due("written over", log.octet(2, 0), 1);
    }

    private void pokeIsSeenByOpenAlone() {
        part("promise 16, memory");
        SegmentLog log = new SegmentLog();
        log.add(1, 10);
        log.commit(-1);
        Forge.change(log, 2, 16, 8, 77);
        due("get(1)", log.get(1), 10);
        due("bad()", log.bad(), NONE);
        log.crash(0);
        due("open()", log.open(), 1);
        due("get(1)", log.get(1), 77);
        for (int i = 0; i < 4; i++) {
            log.add(2, i);
            log.commit(-1);
        }
        log.poke(2, 16, 1);
        log.add(3, 3);
        due("merge", log.commit(-1), 6);
        due("the merged FILE", Forge.number(log, log.file(0, 1), 16, 8), 77);
    }

    private void bad() {
        part("promise 17");
        SegmentLog log = new SegmentLog();
        due("bad(), nothing", log.bad(), NONE);
        log.poke(0, 5, 1);
        log.poke(1, 5, 1);
        due("no HEAD yet", log.bad(), NONE);
        adds(log, 1, 3);
        due("in the QUEUE", log.bad(), NONE);
        log.sync();
        due("on THE DISK", log.bad(), NONE);
        log.poke(2, 63, 1);
        due("LOG", log.bad(), 2);
        log.poke(2, 63, 1);
        adds(log, 4, 6);
        log.poke(3, 0, 1);
        due("in the QUEUE", log.bad(), NONE);
        log.commit(-1);
        due("HEAD of GENERATION 1", log.bad(), NONE);
        dueFile(log, 0, 1, 4, 2, 6);
        log.poke(5, 30, 8);
        due("FILE", log.bad(), 5);
        log.poke(4, 2, 8);
        due("the lesser one", log.bad(), 4);
        log.poke(1, 56, 8);
        due("the HEAD", log.bad(), 1);
        log.poke(1, 56, 8);
        log.poke(4, 2, 8);
        log.poke(5, 30, 8);
        log.poke(2, 30, 8);
        log.poke(15, 30, 8);
        due("FREE", log.bad(), NONE);
        adds(log, 1, 1);
        log.commit(-1);
        log.poke(1, 9, 1);
        due("the HEAD before", log.bad(), NONE);
        log.poke(0, 9, 1);
        due("HEAD of GENERATION 2", log.bad(), 0);
        log.crash(0);
        due("closed", log.bad(), CLOSED);
    }

    private void queued() {
        part("promise 18");
        SegmentLog log = new SegmentLog();
        due("queued(0)", log.queued(0), NONE);
        adds(log, 1, 3);
        log.commit(-1);
        due("queued(0)", log.queued(0), NONE);
        adds(log, 1, 9);
        int[] blocks = {2, 4, 5};
        for (int i = 0; i < blocks.length; i++) {
            due("queued(" + i + ")", log.queued(i), blocks[i]);
        }
        for (int i : new int[] {-1, 3, 64, 1000, Integer.MIN_VALUE, Integer.MAX_VALUE}) {
            due("queued(" + i + ")", log.queued(i), NONE);
        }
        log.sync();
        due("queued(0)", log.queued(0), NONE);
        adds(log, 1, 3);
        due("queued(0)", log.queued(0), 6);
        log.crash(0);
        due("closed", log.queued(0), CLOSED);
        due("closed", log.queued(-1), CLOSED);
        log.open();
        due("opened", log.queued(0), NONE);
    }

    private void count() {
        part("promise 19");
        SegmentLog log = new SegmentLog();
        adds(log, 1, 7);
        log.commit(-1);
        adds(log, 1, 3);
        log.sync();
        adds(log, 1, 5);
        dueCounts(log, 16, 9, 1, 15, 2, 2, 1, 1, 16, 1, 1);
        for (int what : new int[] {-1, 11, 12, Integer.MIN_VALUE, Integer.MAX_VALUE}) {
            due("count(" + what + ")", log.count(what), BAD);
        }
        log.commit(-1);
        dueCounts(log, 16, 8, 2, 15, 0, 0, 0, 2, 16, 1, 2);
    }

    private void countClosed() {
        part("promise 19, closed");
        SegmentLog log = formatted(20);
        adds(log, 1, 7);
        log.commit(-1);
        adds(log, 1, 5);
        log.crash(0);
        dueCounts(log, 20, 0, 0, 0, 0, 0, 0, 0, 0, 0, 0);
        due("count(-1)", log.count(-1), BAD);
        due("count(11)", log.count(11), BAD);
    }
}
