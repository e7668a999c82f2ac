/** Part 2 of the document, RECORDS and COMMIT: a test for each sentence that names a boundary. */
public final class RecordsEdgesTest extends Steps {
    public static void main(String[] args) {
        RecordsEdgesTest test = new RecordsEdgesTest();
        test.sequences();
        test.refusedAddTakesNoSequence();
        test.sequencePastTheGreatest();
        test.edgesOfKeysAndValues();
        test.twoWaitThreeAreWritten();
        test.leastFreeBlock();
        test.notFree();
        test.commitOfLogOnly();
        test.commitOfWaitingOnly();
        test.commitOfBoth();
        test.commitOfNone();
        test.fourFilesStay();
        test.fiveFilesMerge();
        test.mergeThatDoesNotFit();
        test.sortedByKeys();
        test.oneKeyFilesFirst();
        test.agesOfFilesNotTheirNumbers();
        test.asTheyStandInFiles();
        test.thenBySequence();
        test.numbersOfFiles();
        test.numberBehindOpening();
        test.numberOfFileThatWasLost();
        test.lastBlockMayHaveFewer();
        test.runsOfFreeBlocks();
        test.runAtTheEnd();
        test.runsThatAreNotOne();
        test.fileAheadOfHead();
        test.mergeWithPowerFailing();
        test.generations();
        test.generationPastTheGreatest();
        test.headNamesThoseThatStay();
        test.freeBehindCommit();
        test.check.end();
    }

    private void sequences() {
        sentence("2", "each with a SEQUENCE, 1, 2, ..");
        SegmentLog log = formatted(64);
        for (int i = 1; i <= 186; i++) {
            due("add", log.add(-i, i), i);
            due("count(8)", log.count(8), i + 1);
        }
        log.crash(Integer.MAX_VALUE);
        due("open()", log.open(), 186);
        due("add: goes on", log.add(1, 1), 187);
        log.format(4);
        due("add: from 1 again", log.add(1, 1), 1);
    }

    private void refusedAddTakesNoSequence() {
        sentence("2", "each with a SEQUENCE, 1, 2, .. (behind an add that is FULL)");
        SegmentLog log = fullOfLog(7);
        adds(log, 16, 17);
        dueRefused("add", log, () -> log.add(18, 18), FULL);
        due("crash(MAX)", log.crash(Integer.MAX_VALUE), 5);
        due("open()", log.open(), 15);
        due("add", log.add(18, 18), 16);
    }

    /** The document bounds the SEQUENCE only where a HEAD is read. */
    private void sequencePastTheGreatest() {
        sentence("2", "each with a SEQUENCE, 1, 2, .. (past 1000000000)");
        SegmentLog log = closed(new SegmentLog());
        Forge.head(log, 1, 1, 1000000000);
        due("open()", log.open(), 0);
        due("add", log.add(1, 10), 1000000000);
        due("add", log.add(1, 11), 1000000001);
        due("add", log.add(1, 12), 1000000002);
        due("count(8)", log.count(8), 1000000003);
        log.sync();
        due("acknowledged()", log.acknowledged(), 1000000002);
        log.crash(0);
        due("open(): LOG goes on", log.open(), 3);
        due("count(8)", log.count(8), 1000000003);
        due("commit(-1)", log.commit(-1), 2);
        dueNumber(log, 0, 48, 8, 1000000003);
        log.crash(0);
        due("open(): that HEAD does not count, the LOG does still", log.open(), 3);
        due("count(7)", log.count(7), 1);
        due("get(1)", log.get(1), 12);
    }

    private void edgesOfKeysAndValues() {
        sentence("2", "RECORDS: a key and a value (longs)");
        long[] edges = {Long.MIN_VALUE, Integer.MIN_VALUE, -1, 0, 1, Integer.MAX_VALUE, 1L << 32, Long.MAX_VALUE};
        SegmentLog log = new SegmentLog();
        for (int i = edges.length - 1; i >= 0; i--) {
            log.add(edges[i], ~edges[i]);
        }
        for (int turn = 0; turn < 3; turn++) {
            for (int i = 0; i < edges.length; i++) {
                due("record(" + i + ", 0)", log.record(i, 0), edges[i]);
                due("record(" + i + ", 1)", log.record(i, 1), ~edges[i]);
                due("get", log.get(edges[i]), ~edges[i]);
                due("times", log.times(edges[i]), 1);
            }
            due("get of none", log.get(2), 0);
            if (turn == 0) {
                log.commit(-1);
            }
            log.crash(0);
            due("open()", log.open(), edges.length);
        }
    }

    private void twoWaitThreeAreWritten() {
        sentence("2", "An add WAITS in memory; when three wait, they are written as a LOG BLOCK");
        SegmentLog log = new SegmentLog();
        for (int i = 1; i <= 9; i++) {
            adds(log, i, i);
            due("count(4)", log.count(4), i % 3);
            due("count(5)", log.count(5), i / 3);
            due("count(6)", log.count(6), i / 3);
            due("record(" + (i - 1) + ", 2)", log.record(i - 1, 2), i % 3 == 0 ? 1 : 2);
        }
        SegmentLog flushed = new SegmentLog();
        adds(flushed, 1, 2);
        flushed.flush();
        adds(flushed, 3, 4);
        due("count(4): what was flushed does not wait", flushed.count(4), 2);
        adds(flushed, 5, 5);
        dueQueue(flushed, 2, 3);
        SegmentLog lost = new SegmentLog();
        adds(lost, 1, 2);
        due("crash(MAX)", lost.crash(Integer.MAX_VALUE), 0);
        due("open(): what waits is in memory alone", lost.open(), 0);
    }

    private void leastFreeBlock() {
        sentence("2", "a LOG BLOCK (the least FREE one)");
        SegmentLog log = new SegmentLog();
        adds(log, 1, 7);
        log.commit(-1);
        dueFile(log, 0, 1, 4, 3, 7);
        adds(log, 1, 9);
        dueQueue(log, 2, 3, 7);
        SegmentLog gaps = closed(formatted(8));
        Forge.head(gaps, 1, 1, 2, 1, 2, 1, 1, 2, 4, 1, 1, 3, 6, 1, 1);
        Forge.fileBlock(gaps, 2, 1, 0, 1, 1, 1);
        Forge.fileBlock(gaps, 4, 2, 0, 1, 1, 1);
        Forge.fileBlock(gaps, 6, 3, 0, 1, 1, 1);
        due("open()", gaps.open(), 3);
        adds(gaps, 1, 9);
        dueQueue(gaps, 3, 5, 7);
        adds(gaps, 1, 2);
        dueRefused("add", gaps, () -> gaps.add(1, 1), FULL);
    }

    private void notFree() {
        sentence("2", "BLOCKS 0 and 1, those of LOG and of FILES are not FREE.");
        SegmentLog log = formatted(6);
        due("count(1)", log.count(1), 4);
        dueUses(log, 3, 3, 0, 0, 0, 0);
        adds(log, 1, 3);
        due("count(1), LOG in the QUEUE", log.count(1), 3);
        log.sync();
        due("count(1), LOG on THE DISK", log.count(1), 3);
        log.commit(-1);
        dueUses(log, 3, 3, 0, 2, 0, 0);
        adds(log, 1, 9);
        dueUses(log, 3, 3, 1, 2, 1, 1);
        due("count(1)", log.count(1), 0);
        due("octet(2, 0): the QUEUE's BLOCK is not on THE DISK", log.octet(2, 2), 1);
    }

    private void commitOfLogOnly() {
        sentence("2", "COMMIT: all records that are in no FILE (of LOG ..)");
        SegmentLog log = new SegmentLog();
        adds(log, 1, 3);
        due("commit(-1), LOG in the QUEUE", log.commit(-1), 1);
        dueFile(log, 0, 1, 3, 1, 3);
        adds(log, 4, 6);
        log.sync();
        due("commit(-1), LOG on THE DISK", log.commit(-1), 2);
        dueFile(log, 1, 2, 4, 1, 3);
        adds(log, 7, 9);
        log.crash(64);
        log.open();
        due("commit(-1), LOG that was replayed", log.commit(-1), 3);
        dueFile(log, 2, 3, 5, 1, 3);
        due("count(3)", log.count(3), 9);
    }

    private void commitOfWaitingOnly() {
        sentence("2", "COMMIT: all records that are in no FILE (.. and those that wait)");
        for (int waiting = 1; waiting <= 2; waiting++) {
            SegmentLog log = new SegmentLog();
            adds(log, 1, waiting);
            due("commit(-1)", log.commit(-1), 1);
            dueFile(log, 0, 1, 2, 1, waiting);
            due("count(4)", log.count(4), 0);
            due("octet(2, 0): no LOG is written for them", log.octet(2, 0), 2);
            dueZeroBlock(log, 3);
            log.crash(0);
            due("open()", log.open(), waiting);
            due("count(8)", log.count(8), waiting + 1);
        }
    }

    private void commitOfBoth() {
        sentence("2", "all records that are in no FILE (of LOG, and those that wait) become a new FILE");
        SegmentLog log = busy();
        due("commit(-1)", log.commit(-1), 2);
        dueFile(log, 1, 2, 6, 3, 7);
        dueRecords(log, 1, 10, 0, 2, 20, 0, 3, 30, 0, 3, 30, 0, 4, 40, 0, 4, 40, 0, 5, 50, 0, 5, 50, 0,
            6, 60, 0, 6, 60, 0, 7, 70, 0, 8, 80, 0);
    }

    private void commitOfNone() {
        sentence("2", "COMMIT: all records that are in no FILE (there is none)");
        SegmentLog log = new SegmentLog();
        dueRefused("commit(-1)", log, () -> log.commit(-1), 0);
        SegmentLog five = withFiles(16, 5);
        dueRefused("commit(-1), five FILES", five, () -> five.commit(-1), 0);
        dueRefused("commit(0), five FILES", five, () -> five.commit(0), 0);
    }

    private void fourFilesStay() {
        sentence("2", "if there are five FILES, all their records, too (there are four)");
        SegmentLog log = withFiles(16, 4);
        adds(log, 9, 9);
        due("commit(-1)", log.commit(-1), 5);
        due("count(2)", log.count(2), 5);
        for (int i = 0; i < 5; i++) {
            dueFile(log, i, i + 1, i + 2, 1, 1);
        }
    }

    private void fiveFilesMerge() {
        sentence("2", "if there are five FILES, all their records, too (a MERGE)");
        SegmentLog log = withFiles(16, 5);
        adds(log, 9, 9);
        due("commit(-1)", log.commit(-1), 6);
        due("count(2)", log.count(2), 1);
        dueFile(log, 0, 6, 7, 2, 6);
        for (int g = 7; g <= 10; g++) {
            adds(log, g, g);
            due("commit(-1)", log.commit(-1), g);
            due("count(2)", log.count(2), g - 5);
        }
        adds(log, 11, 11);
        due("commit(-1), again", log.commit(-1), 11);
        due("count(2)", log.count(2), 1);
        due("file(0, 3)", log.file(0, 3), 11);
        log.crash(0);
        due("open()", log.open(), 11);
    }

    /** Six records need two BLOCKS beside the five of the FILES that they are merged from. */
    private void mergeThatDoesNotFit() {
        sentence("2", "(a MERGE) .. in the least run of FREE BLOCKS that is long enough");
        SegmentLog tight = withFiles(8, 5);
        adds(tight, 9, 9);
        due("count(1)", tight.count(1), 1);
        dueRefused("commit(-1): the BLOCKS of FILES are not FREE before", tight, () -> tight.commit(-1), FULL);
        SegmentLog fits = withFiles(9, 5);
        adds(fits, 9, 9);
        due("commit(-1)", fits.commit(-1), 6);
        dueFile(fits, 0, 6, 7, 2, 6);
        due("count(1)", fits.count(1), 5);
    }

    private void sortedByKeys() {
        sentence("2", "sorted by keys");
        SegmentLog log = new SegmentLog();
        long[] keys = {0, Long.MAX_VALUE, -1, 1, Long.MIN_VALUE, 256, 255};
        for (int i = 0; i < keys.length; i++) {
            log.add(keys[i], i);
        }
        log.commit(-1);
        dueRecordsOnDisk(log, log.file(0, 1), new long[] {Long.MIN_VALUE, -1, 0, 1, 255, 256, Long.MAX_VALUE},
            new long[] {4, 2, 0, 3, 6, 5, 1});
    }

    private void oneKeyFilesFirst() {
        sentence("2", "of one key those of FILES first, by age of FILES");
        SegmentLog log = new SegmentLog();
        for (int i = 1; i <= 5; i++) {
            log.add(7, i);
            log.commit(-1);
        }
        log.add(7, 6);
        log.flush();
        log.add(7, 7);
        log.commit(-1);
        dueRecordsOnDisk(log, log.file(0, 1), new long[] {7, 7, 7, 7, 7, 7, 7}, new long[] {1, 2, 3, 4, 5, 6, 7});
        due("get(7)", log.get(7), 7);
    }

    private void agesOfFilesNotTheirNumbers() {
        sentence("2", "by age of FILES (as the HEAD names them, whatever their numbers and BLOCKS)");
        SegmentLog log = closed(new SegmentLog());
        Forge.head(log, 1, 1, 20, 9, 6, 1, 1, 4, 3, 1, 1, 8, 10, 1, 1, 2, 4, 1, 1, 4, 2, 1, 1);
        int[][] files = {{6, 9}, {3, 4}, {10, 8}, {4, 2}, {2, 4}};
        for (int i = 0; i < 5; i++) {
            Forge.fileBlock(log, files[i][0], files[i][1], 0, 1, 1, 5);
            Forge.change(log, files[i][0], 16, 8, 100 + i);
        }
        due("open()", log.open(), 5);
        for (int i = 0; i < 5; i++) {
            due("record(" + i + ", 1)", log.record(i, 1), 100 + i);
        }
        due("get(5)", log.get(5), 104);
        log.add(5, 105);
        due("commit(-1)", log.commit(-1), 2);
        dueRecordsOnDisk(log, log.file(0, 1), new long[] {5, 5, 5, 5, 5, 5},
            new long[] {100, 101, 102, 103, 104, 105});
        due("file(0, 0)", log.file(0, 0), 10);
    }

    /** The first FILE's keys are changed so that they stand as 5, 3, 5: no COMMIT would write them so. */
    private void asTheyStandInFiles() {
        sentence("2", "and as they stand there");
        SegmentLog log = new SegmentLog();
        adds(log, 1, 3);
        log.commit(-1);
        int first = log.file(0, 1);
        Forge.change(log, first, 8, 8, 5);
        Forge.change(log, first, 24, 8, 3);
        Forge.change(log, first, 40, 8, 5);
        log.crash(0);
        due("open()", log.open(), 3);
        dueRecords(log, 3, 20, 0, 5, 10, 0, 5, 30, 0);
        for (int i = 0; i < 4; i++) {
            log.add(4, i);
            log.commit(-1);
        }
        log.add(5, 99);
        log.commit(-1);
        dueRecordsOnDisk(log, log.file(0, 1), new long[] {3, 4, 4, 4, 4, 5, 5, 5},
            new long[] {20, 0, 1, 2, 3, 10, 30, 99});
    }

    /** The LOG BLOCKS lie on THE DISK against the order of their SEQUENCES. */
    private void thenBySequence() {
        sentence("2", "then by SEQUENCE");
        SegmentLog log = closed(new SegmentLog());
        for (int i = 0; i < 3; i++) {
            Forge.logBlock(log, 4 - i, 3, 3 * i + 1);
            for (int k = 0; k < 3; k++) {
                Forge.change(log, 4 - i, 8 + 16 * k, 8, 6);
            }
        }
        due("open()", log.open(), 9);
        log.add(6, 10);
        for (int i = 0; i < 10; i++) {
            due("record(" + i + ", 1)", log.record(i, 1), i + 1);
        }
        due("commit(-1)", log.commit(-1), 1);
        dueRecordsOnDisk(log, 5, new long[] {6, 6, 6, 6, 6, 6, 6, 6, 6, 6}, new long[] {1, 2, 3, 4, 5, 6, 7, 8, 9, 10});
    }

    private void numbersOfFiles() {
        sentence("2", "Its number is one more than that of the FILE made before (1 at first");
        SegmentLog log = formatted(16);
        due("count(10): none is made", log.count(10), 0);
        for (int i = 1; i <= 12; i++) {
            adds(log, i, i);
            log.commit(-1);
            due("count(10)", log.count(10), i);
            due("file", log.file(log.count(2) - 1, 0), i);
        }
        adds(log, 1, 38);
        dueRefused("commit(-1)", log, () -> log.commit(-1), FULL);
        due("count(10)", log.count(10), 12);
        log.format(16);
        adds(log, 1, 1);
        log.commit(-1);
        due("file(0, 0): 1 again", log.file(0, 0), 1);
    }

    private void numberBehindOpening() {
        sentence("2", "behind opening: than the greatest that is named, or 0");
        SegmentLog log = closed(new SegmentLog());
        Forge.head(log, 1, 1, 5, 3, 6, 1, 1, 40, 7, 1, 1, 5, 8, 1, 1);
        Forge.fileBlock(log, 6, 3, 0, 1, 1, 1);
        Forge.fileBlock(log, 7, 40, 0, 1, 1, 1);
        Forge.fileBlock(log, 8, 5, 0, 1, 1, 1);
        due("open()", log.open(), 3);
        due("count(10)", log.count(10), 40);
        log.add(1, 1);
        log.commit(-1);
        due("file(3, 0)", log.file(3, 0), 41);
        SegmentLog none = withFiles(16, 3);
        none.poke(0, 20, 1);
        none.poke(1, 20, 1);
        none.crash(0);
        due("open(), no HEAD", none.open(), 0);
        due("count(10)", none.count(10), 0);
        none.add(1, 1);
        due("commit(-1)", none.commit(-1), 1);
        due("file(0, 0)", none.file(0, 0), 1);
        SegmentLog zero = closed(new SegmentLog());
        Forge.head(zero, 1, 1, 5, 0, 6, 1, 1);
        Forge.fileBlock(zero, 6, 0, 0, 1, 1, 1);
        due("open(), FILE 0", zero.open(), 1);
        zero.add(1, 1);
        zero.commit(-1);
        due("file(1, 0)", zero.file(1, 0), 1);
    }

    private void numberOfFileThatWasLost() {
        sentence("2", "behind opening: than the greatest that is named (not that of a FILE whose HEAD was lost)");
        SegmentLog log = withFiles(16, 2);
        adds(log, 3, 3);
        due("commit(127)", log.commit(127), NONE);
        due("open()", log.open(), 2);
        due("count(10)", log.count(10), 2);
        adds(log, 3, 3);
        due("commit(-1)", log.commit(-1), 3);
        dueFile(log, 2, 3, 4, 1, 1);
        log.poke(1, 40, 1);
        log.crash(0);
        due("open() by the HEAD before", log.open(), 2);
        due("count(10)", log.count(10), 2);
    }

    private void lastBlockMayHaveFewer() {
        sentence("2", "Three a BLOCK (the last one may have fewer)");
        for (int records = 1; records <= 12; records++) {
            SegmentLog log = new SegmentLog();
            adds(log, 1, records);
            log.commit(-1);
            int blocks = (records + 2) / 3;
            due("file(0, 2)", log.file(0, 2), blocks);
            for (int place = 0; place < blocks; place++) {
                int due = place < blocks - 1 ? 3 : records - 3 * (blocks - 1);
                due("records of BLOCK " + place, log.octet(log.file(0, 1) + place, 1), due);
            }
        }
    }

    /** FILES at 4, 7 and 11 leave runs of 2, 2, 3 and 4 BLOCKS. */
    private SegmentLog withRuns() {
        SegmentLog log = closed(formatted(16));
        Forge.head(log, 1, 1, 5, 1, 4, 1, 1, 2, 7, 1, 1, 3, 11, 1, 1);
        Forge.fileBlock(log, 4, 1, 0, 1, 1, 1);
        Forge.fileBlock(log, 7, 2, 0, 1, 1, 1);
        Forge.fileBlock(log, 11, 3, 0, 1, 1, 1);
        due("open()", log.open(), 3);
        return log;
    }

    private void runsOfFreeBlocks() {
        sentence("2", "in the least run of FREE BLOCKS that is long enough");
        SegmentLog one = withRuns();
        adds(one, 1, 2);
        due("commit(-1)", one.commit(-1), 2);
        dueFile(one, 3, 4, 2, 1, 2);
        SegmentLog behindLog = withRuns();
        adds(behindLog, 1, 3);
        behindLog.commit(-1);
        dueFile(behindLog, 3, 4, 3, 1, 3);
        SegmentLog two = withRuns();
        adds(two, 1, 4);
        two.commit(-1);
        dueFile(two, 3, 4, 5, 2, 4);
        SegmentLog three = withRuns();
        adds(three, 1, 7);
        three.commit(-1);
        dueFile(three, 3, 4, 8, 3, 7);
        SegmentLog four = withRuns();
        adds(four, 1, 10);
        dueQueue(four, 2, 3, 5);
        four.commit(-1);
        dueFile(four, 3, 4, 12, 4, 10);
    }

    private void runAtTheEnd() {
        sentence("2", "the least run of FREE BLOCKS that is long enough (it ends with THE DISK)");
        SegmentLog log = withRuns();
        adds(log, 1, 12);
        dueQueue(log, 2, 3, 5, 6);
        due("commit(-1)", log.commit(-1), 2);
        dueFile(log, 3, 4, 12, 4, 12);
        due("use(15)", log.use(15), 2);
        SegmentLog more = withRuns();
        adds(more, 1, 13);
        dueRefused("commit(-1), a BLOCK more", more, () -> more.commit(-1), FULL);
        for (int n = 4; n <= 64; n++) {
            int half = (n - 2) / 2;
            SegmentLog all = formatted(n);
            adds(all, 1, 3 * half);
            due("commit(-1), " + n + " BLOCKS", all.commit(-1), 1);
            dueFile(all, 0, 1, 2 + half, half, 3 * half);
            SegmentLog over = formatted(n);
            adds(over, 1, 3 * half + (n % 2 == 0 ? 1 : 3));
            due("commit(-1), one too long", over.commit(-1), FULL);
        }
    }

    private void runsThatAreNotOne() {
        sentence("2", "run (BLOCKS that are not one behind the other are none)");
        SegmentLog log = closed(formatted(9));
        Forge.head(log, 1, 1, 5, 1, 4, 1, 1, 2, 7, 1, 1);
        Forge.fileBlock(log, 4, 1, 0, 1, 1, 1);
        Forge.fileBlock(log, 7, 2, 0, 1, 1, 1);
        due("open()", log.open(), 2);
        adds(log, 1, 4);
        due("count(1)", log.count(1), 4);
        due("commit(-1)", log.commit(-1), 2);
        dueFile(log, 2, 3, 5, 2, 4);
        adds(log, 1, 4);
        due("count(1)", log.count(1), 2);
        dueUses(log, 3, 3, 1, 0, 2, 2, 2, 2, 0);
        dueRefused("commit(-1): BLOCKS 3 and 8", log, () -> log.commit(-1), FULL);
    }

    private void fileAheadOfHead() {
        sentence("2", "These are written, a SYNC is done; then a HEAD is written");
        for (int n = 0; n < 192; n++) {
            SegmentLog log = new SegmentLog();
            adds(log, 1, 4);
            log.sync();
            due("commit(" + n + ")", log.commit(n), NONE);
            check.dueTrue("FILE's first BLOCK at " + n, Forge.whole(log, 3) == n >= 64);
            check.dueTrue("FILE's second BLOCK at " + n, Forge.whole(log, 4) == n >= 128);
            due("HEAD", log.octet(1, 0), n > 128 ? 3 : 0);
            due("open()", log.open(), 3);
            due("count(7)", log.count(7), 0);
        }
    }

    /** Six records in two BLOCKS and a HEAD: 192 bytes; what was on THE DISK before is there still. */
    private void mergeWithPowerFailing() {
        sentence("2", "(a MERGE) .. These are written .. then a HEAD is written (with power failing)");
        for (int n = 0; n <= 192; n++) {
            SegmentLog log = withFiles(16, 5);
            log.add(1, 99);
            due("commit(" + n + ")", log.commit(n), n < 192 ? NONE : 6);
            if (n == 192) {
                log.crash(0);
            }
            due("open() behind commit(" + n + ")", log.open(), n < 192 ? 5 : 6);
            due("count(2)", log.count(2), n < 192 ? 5 : 1);
            due("get(1)", log.get(1), n < 192 ? 10 : 99);
            due("get(5)", log.get(5), 50);
            due("bad()", log.bad(), NONE);
        }
    }

    private void generations() {
        sentence("2", "of one GENERATION more (1 at first)");
        SegmentLog log = new SegmentLog();
        due("count(7)", log.count(7), 0);
        adds(log, 1, 1);
        due("commit(-1)", log.commit(-1), 1);
        due("commit(-1), nothing to do", log.commit(-1), 0);
        due("count(7)", log.count(7), 1);
        adds(log, 2, 2);
        due("commit(0)", log.commit(0), NONE);
        log.open();
        due("count(7): the failed one is no GENERATION", log.count(7), 1);
        adds(log, 2, 2);
        due("commit(-1)", log.commit(-1), 2);
        log.format(16);
        adds(log, 2, 2);
        due("commit(-1): 1 again", log.commit(-1), 1);
    }

    /** The document bounds the GENERATION only where a HEAD is read. */
    private void generationPastTheGreatest() {
        sentence("2", "of one GENERATION more (than 1000000000)");
        SegmentLog log = closed(new SegmentLog());
        Forge.head(log, 0, 1000000000, 5);
        due("open()", log.open(), 0);
        adds(log, 1, 1);
        due("commit(-1)", log.commit(-1), 1000000001);
        due("count(7)", log.count(7), 1000000001);
        dueNumber(log, 1, 2, 6, 1000000001);
        due("bad()", log.bad(), NONE);
        log.poke(1, 0, 1);
        due("bad(): BLOCK 1 is that of the latest HEAD", log.bad(), 1);
        log.poke(1, 0, 1);
        log.crash(0);
        due("open(): the HEAD before counts", log.open(), 0);
        due("count(7)", log.count(7), 1000000000);
    }

    private void headNamesThoseThatStay() {
        sentence("2", "with the FILES (those that stay, in order, then the new one) and the next SEQUENCE");
        SegmentLog log = new SegmentLog();
        adds(log, 1, 5);
        log.commit(-1);
        adds(log, 6, 6);
        log.commit(-1);
        dueBytes(log, 0, 3, 2, 2, 0, 0, 0, 0, 0, 1, 0, 3, 0, 2, 0, 5, 0, 2, 0, 2, 0, 1, 0, 1, 0,
            0, 0, 0, 0, 0, 0, 0, 0, 0, 0, 0, 0, 0, 0, 0, 0, 0, 0, 0, 0, 0, 0, 0, 0, 7);
        for (int i = 7; i <= 9; i++) {
            adds(log, i, i);
            log.commit(-1);
        }
        adds(log, 10, 10);
        log.commit(-1);
        due("file(0, 1)", log.file(0, 1), 8);
        dueBytes(log, 0, 3, 1, 6, 0, 0, 0, 0, 0, 6, 0, 8, 0, 4, 0, 10, 0,
            0, 0, 0, 0, 0, 0, 0, 0, 0, 0, 0, 0, 0, 0, 0, 0, 0, 0, 0, 0, 0, 0, 0, 0, 0, 0, 0, 0, 0, 0, 0, 0, 11);
    }

    private void freeBehindCommit() {
        sentence("2", "Then BLOCKS of LOG and of FILES merged are FREE.");
        SegmentLog log = formatted(12);
        adds(log, 1, 9);
        dueUses(log, 3, 3, 1, 1, 1, 0, 0, 0, 0, 0, 0, 0);
        log.commit(-1);
        dueUses(log, 3, 3, 0, 0, 0, 2, 2, 2, 0, 0, 0, 0);
        due("octet(2, 0): the bytes stay", log.octet(2, 0), 1);
        due("bad()", log.bad(), NONE);
        log.poke(2, 0, 9);
        due("bad(): FREE ones do not matter", log.bad(), NONE);
        SegmentLog five = withFiles(12, 5);
        dueUses(five, 3, 3, 2, 2, 2, 2, 2, 0, 0, 0, 0, 0);
        adds(five, 1, 3);
        dueUses(five, 3, 3, 2, 2, 2, 2, 2, 1, 0, 0, 0, 0);
        five.commit(-1);
        dueUses(five, 3, 3, 0, 0, 0, 0, 0, 0, 2, 2, 2, 0);
        due("octet(2, 0): the bytes stay", five.octet(2, 0), 2);
        five.poke(2, 0, 9);
        due("bad(): FREE ones do not matter", five.bad(), NONE);
        SegmentLog failed = withFiles(12, 5);
        adds(failed, 1, 3);
        failed.commit(128);
        due("open()", failed.open(), 8);
        dueUses(failed, 3, 3, 2, 2, 2, 2, 2, 1, 0, 0, 0, 0);
    }
}
