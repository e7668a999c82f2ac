/** Part 1 of the document, THE DISK and its terms: a test for each sentence that names a boundary. */
public final class DiskEdgesTest extends Steps {
    public static void main(String[] args) {
        DiskEdgesTest test = new DiskEdgesTest();
        test.leastAndMostBlocks();
        test.atFirstZero();
        test.lowestByteFirst();
        test.sumOfEdgeBytes();
        test.sumStartsWithTheNumber();
        test.wholeByEveryBit();
        test.zeroBlocks();
        test.logOfOneToThree();
        test.logOfAllSequenceBytes();
        test.fileOfOneBlock();
        test.fileOfMostBlocks();
        test.fileNumberOfTwoBytes();
        test.restOfBlocksIsZero();
        test.headOfOneToFiveFiles();
        test.headOfNoFile();
        test.headsTakeTurns();
        test.queueKeepsOrder();
        test.syncEmptiesTheQueue();
        test.powerFailsAtEveryByte();
        test.powerFailsOverOldBytes();
        test.check.end();
    }

    private void leastAndMostBlocks() {
        sentence("1", "THE DISK has 4 to 64 BLOCKS of 64 bytes");
        SegmentLog log = new SegmentLog();
        for (int n = 4; n <= 64; n++) {
            due("format(" + n + ")", log.format(n), 0);
            due("count(0)", log.count(0), n);
            due("octet of the last byte", log.octet(n - 1, 63), 0);
            due("octet behind the last byte", log.octet(n - 1, 64), BAD);
            due("octet behind the last BLOCK", log.octet(n, 0), BAD);
            due("poke of the last byte", log.poke(n - 1, 63, 255), 255);
            due("poke behind the last BLOCK", log.poke(n, 0, 255), BAD);
        }
        for (int n : new int[] {3, 65}) {
            dueRefused("format(" + n + ")", log, () -> log.format(n), BAD);
        }
    }

    private void atFirstZero() {
        sentence("1", "at first 0");
        SegmentLog log = formatted(64);
        for (int i = 0; i < 64 * 64; i++) {
            log.poke(i / 64, i % 64, 255);
        }
        due("format(4)", log.format(4), 0);
        dueZeroDisk(log, 4);
        due("format(64): a greater DISK behind a small one", log.format(64), 0);
        dueZeroDisk(log, 64);
    }

    private void lowestByteFirst() {
        sentence("1", "Numbers of more bytes have the lowest first.");
        SegmentLog log = closed(new SegmentLog());
        Forge.head(log, 0, 0x0A0B0C0EL, 0x01020304L, 0x0201, 3, 1, 1);
        Forge.fileBlock(log, 3, 0x0201, 0, 1, 1, 7);
        due("open()", log.open(), 1);
        due("count(7)", log.count(7), 0x0A0B0C0E);
        due("count(8)", log.count(8), 0x01020304);
        due("file(0, 0)", log.file(0, 0), 0x0201);
        log.add(0x1112131415161718L, 0x2122232425262728L);
        log.flush();
        log.commit(-1);
        dueBytes(log, 2, 1, 1, 4, 3, 2, 1, 0, 0,
            0x18, 0x17, 0x16, 0x15, 0x14, 0x13, 0x12, 0x11, 0x28, 0x27, 0x26, 0x25, 0x24, 0x23, 0x22, 0x21);
        dueBytes(log, 4, 2, 1, 2, 2, 0, 0, 1, 0,
            0x18, 0x17, 0x16, 0x15, 0x14, 0x13, 0x12, 0x11, 0x28, 0x27, 0x26, 0x25, 0x24, 0x23, 0x22, 0x21);
        dueBytes(log, 1, 3, 2, 0x0F, 0x0C, 0x0B, 0x0A, 0, 0, 1, 2, 3, 0, 1, 0, 1, 0, 2, 2, 4, 0, 1, 0, 1, 0,
            0, 0, 0, 0, 0, 0, 0, 0, 0, 0, 0, 0, 0, 0, 0, 0, 0, 0, 0, 0, 0, 0, 0, 0, 5, 3, 2, 1);
    }

    /** The due SUMS were computed by another program. */
    private void sumOfEdgeBytes() {
        sentence("1", "for each of its first 56 bytes b (0 .. 255)");
        SegmentLog log = new SegmentLog();
        for (int i = 0; i < 3; i++) {
            log.add(-1, -1);
        }
        log.sync();
        dueNumber(log, 2, 56, 8, 0x7f8b0154fcd3e380L);
        SegmentLog poked = withFiles(4, 1);
        for (int i = 0; i < 56; i++) {
            Forge.set(poked, 1, i, 1, 255);
        }
        due("bad()", poked.bad(), 1);
        Forge.set(poked, 1, 56, 8, 0x776c9f5568b70ea0L);
        due("bad(), all bytes 255", poked.bad(), NONE);
    }

    private void sumStartsWithTheNumber() {
        sentence("1", "The SUM of BLOCK n: s is n");
        SegmentLog log = fullOfLog(64);
        log.sync();
        for (int b = 2; b < 64; b++) {
            check.dueTrue("SUM of " + b, Forge.whole(log, b));
        }
        SegmentLog last = formatted(64);
        adds(last, 1, 3 * 30 + 2);
        last.commit(-1);
        Forge.set(last, 62, 0, 1, 1);
        Forge.set(last, 62, 1, 1, 3);
        Forge.set(last, 62, 2, 6, 1);
        for (int i = 8; i < 56; i++) {
            Forge.set(last, 62, i, 1, 255);
        }
        Forge.set(last, 62, 56, 8, 0x7f8b0154fcd3e380L);
        due("bad(): the SUM that is BLOCK 2's in BLOCK 62", last.bad(), 62);
    }

    private void wholeByEveryBit() {
        sentence("1", "A BLOCK is WHOLE, if its SUM fits.");
        SegmentLog log = busy();
        for (int block : new int[] {1, 2, 3}) {
            for (int bit = 0; bit < 512; bit++) {
                log.poke(block, bit / 8, 1 << bit % 8);
                due("bad(), bit " + bit + " of " + block, log.bad(), block);
                log.poke(block, bit / 8, 1 << bit % 8);
            }
            due("bad(), as it was", log.bad(), NONE);
        }
    }

    private void zeroBlocks() {
        sentence("1", "A BLOCK is WHOLE, if its SUM fits. (of bytes that are all 0)");
        SegmentLog even = withFiles(16, 2);
        Forge.clear(even, 0);
        due("bad(): the SUM of BLOCK 0 is 0", even.bad(), NONE);
        even.crash(0);
        due("open(): it is of no SORT", even.open(), 1);
        due("count(7)", even.count(7), 1);
        Forge.clear(even, 1);
        due("bad(): that of BLOCK 1 is not", even.bad(), 1);
        SegmentLog log = new SegmentLog();
        adds(log, 1, 3);
        log.sync();
        Forge.clear(log, 2);
        due("bad(): nor that of BLOCK 2", log.bad(), 2);
    }

    private void logOfOneToThree() {
        sentence("1", "1 LOG: byte 1 how many records (1 .. 3)");
        for (int records = 1; records <= 3; records++) {
            SegmentLog log = new SegmentLog();
            adds(log, 1, records);
            due("flush()", log.flush(), records < 3 ? records : 0);
            due("sync()", log.sync(), 1);
            due("octet(2, 0)", log.octet(2, 0), 1);
            due("octet(2, 1)", log.octet(2, 1), records);
            due("octet(2, 2)", log.octet(2, 2), 1);
            for (int i = 0; i < 3; i++) {
                dueNumber(log, 2, 8 + 16 * i, 8, i < records ? i + 1 : 0);
                dueNumber(log, 2, 16 + 16 * i, 8, i < records ? 10 * i + 10 : 0);
            }
            check.dueTrue("SUM", Forge.whole(log, 2));
        }
    }

    private void logOfAllSequenceBytes() {
        sentence("1", "bytes 2 to 7 the SEQUENCE of the first");
        for (long next : new long[] {255, 256, 65535, 65536, 16777215, 16777216, 1000000000}) {
            SegmentLog log = closed(new SegmentLog());
            Forge.head(log, 1, 1, next);
            due("open()", log.open(), 0);
            due("add", log.add(1, 1), next);
            due("add", log.add(1, 1), next + 1);
            log.flush();
            due("add", log.add(1, 1), next + 2);
            log.flush();
            log.sync();
            dueNumber(log, 2, 2, 6, next);
            dueNumber(log, 3, 2, 6, next + 2);
            log.crash(0);
            due("open()", log.open(), 3);
            due("count(8)", log.count(8), next + 3);
            for (int at = 2; at < 8; at++) {
                log.crash(0);
                long bit = 1L << 8 * (at - 2);
                Forge.change(log, 3, 2, 6, (next + 2) ^ bit);
                due("open(), another byte " + at, log.open(), 2);
                log.crash(0);
                Forge.logBlock(log, 3, 1, next + 2);
                due("open()", log.open(), 3);
            }
        }
    }

    private void fileOfOneBlock() {
        sentence("1", "2 FILE: .. 4, 5 the place of the BLOCK in it (from 0), 6, 7 how many it has");
        for (int records = 1; records <= 7; records++) {
            SegmentLog log = new SegmentLog();
            adds(log, 1, records);
            log.commit(-1);
            int first = 2 + records / 3;
            int blocks = (records + 2) / 3;
            dueFile(log, 0, 1, first, blocks, records);
            for (int place = 0; place < blocks; place++) {
                due("SORT", log.octet(first + place, 0), 2);
                due("records", log.octet(first + place, 1), Math.min(3, records - 3 * place));
                dueNumber(log, first + place, 2, 2, 1);
                dueNumber(log, first + place, 4, 2, place);
                dueNumber(log, first + place, 6, 2, blocks);
            }
            due("behind it", log.octet(first + blocks, 0), 0);
        }
    }

    private void fileOfMostBlocks() {
        sentence("1", "2 FILE: (the longest that a COMMIT can make: 31 BLOCKS beside 31 of LOG)");
        SegmentLog log = formatted(64);
        adds(log, 1, 93);
        due("commit(-1)", log.commit(-1), 1);
        dueFile(log, 0, 1, 33, 31, 93);
        for (int place = 0; place < 31; place++) {
            dueNumber(log, 33 + place, 4, 2, place);
            dueNumber(log, 33 + place, 6, 2, 31);
            due("records", log.octet(33 + place, 1), 3);
        }
        dueNumber(log, 1, 14, 2, 93);
        log.crash(0);
        due("open()", log.open(), 93);
        SegmentLog more = formatted(64);
        adds(more, 1, 94);
        dueRefused("commit(-1), a record more", more, () -> more.commit(-1), FULL);
        SegmentLog all = closed(formatted(64));
        Forge.head(all, 1, 1, 187, 1, 2, 62, 186);
        for (int place = 0; place < 62; place++) {
            Forge.fileBlock(all, 2 + place, 1, place, 62, 3, 3L * place);
        }
        due("open(), one FILE in all BLOCKS", all.open(), 186);
        due("count(1)", all.count(1), 0);
        due("record(185, 0)", all.record(185, 0), 185);
        due("add", all.add(1, 1), 187);
        due("add", all.add(200, 1), 188);
        dueRefused("add", all, () -> all.add(1, 1), FULL);
        due("record(187, 0)", all.record(187, 0), 200);
        due("record(188, 0)", all.record(188, 0), 0);
    }

    /** What is more than two bytes can tell is told by none: the lowest two are written. */
    private void fileNumberOfTwoBytes() {
        sentence("1", "bytes 2, 3 the FILE's number");
        for (int number : new int[] {0, 255, 256, 65534, 65535}) {
            SegmentLog log = closed(new SegmentLog());
            Forge.head(log, 1, 1, 2, number, 5, 1, 1);
            Forge.fileBlock(log, 5, number, 0, 1, 1, 1);
            due("open()", log.open(), 1);
            due("file(0, 0)", log.file(0, 0), number);
            due("count(10)", log.count(10), number);
            log.add(1, 1);
            due("commit(-1)", log.commit(-1), 2);
            due("file(1, 0)", log.file(1, 0), number + 1);
            due("count(10)", log.count(10), number + 1);
            dueNumber(log, 2, 2, 2, (number + 1) % 65536);
            dueNumber(log, 0, 16, 2, (number + 1) % 65536);
            dueNumber(log, 2, 4, 2, 0);
            dueNumber(log, 0, 18, 2, 2);
            log.crash(0);
            due("open()", log.open(), 2);
        }
    }

    private void restOfBlocksIsZero() {
        sentence("1", "From byte 8 on records of 16 bytes: key, value; then 0.");
        SegmentLog log = new SegmentLog();
        for (int i = 0; i < 4; i++) {
            log.add(-1, -1);
        }
        log.commit(-1);
        log.crash(0);
        log.open();
        for (int i = 0; i < 3; i++) {
            log.add(-1, -1);
        }
        log.commit(-1);
        due("octet(2, 55): LOG of before", log.octet(2, 55), 255);
        log.add(5, 6);
        log.flush();
        due("queued(0)", log.queued(0), 2);
        log.sync();
        dueBytes(log, 2, 1, 1, 8, 0, 0, 0, 0, 0, 5, 0, 0, 0, 0, 0, 0, 0, 6);
        log.commit(-1);
        int first = log.file(2, 1);
        dueBytes(log, first, 2, 1, 3, 0, 0, 0, 1, 0, 5, 0, 0, 0, 0, 0, 0, 0, 6);
    }

    private void headOfOneToFiveFiles() {
        sentence("1", "3 HEAD: byte 1 how many FILES (0 .. 5)");
        SegmentLog log = formatted(16);
        for (int i = 1; i <= 7; i++) {
            adds(log, i, i);
            due("commit(-1)", log.commit(-1), i);
            int files = i <= 5 ? i : i - 5;
            due("octet: FILES", log.octet(i % 2, 1), files);
            due("octet: GENERATION", log.octet(i % 2, 2), i);
            for (int k = 0; k < 20; k++) {
                int told = k < 4 * files ? log.file(k / 4, k % 4) : 0;
                dueNumber(log, i % 2, 8 + 2 * k, 2, told);
            }
            dueNumber(log, i % 2, 48, 8, i + 1);
            check.dueTrue("SUM", Forge.whole(log, i % 2));
        }
    }

    private void headOfNoFile() {
        sentence("1", "3 HEAD: byte 1 how many FILES (0 ..)");
        SegmentLog log = closed(new SegmentLog());
        Forge.head(log, 0, 8, 5);
        due("open()", log.open(), 0);
        dueCounts(log, 16, 14, 0, 0, 0, 0, 0, 8, 5, 1, 0);
        due("commit(-1): no record is in no FILE", log.commit(-1), 0);
        due("acknowledged()", log.acknowledged(), 4);
        due("add", log.add(1, 1), 5);
        due("commit(-1)", log.commit(-1), 9);
        dueFile(log, 0, 1, 2, 1, 1);
    }

    private void headsTakeTurns() {
        sentence("1", "BLOCKS 0 and 1 are for HEADS, a GENERATION g for BLOCK g modulo 2.");
        SegmentLog log = new SegmentLog();
        dueUses(log, 3, 3, 0);
        for (int g = 1; g <= 12; g++) {
            adds(log, g, g);
            due("commit(-1)", log.commit(-1), g);
            dueNumber(log, g % 2, 2, 6, g);
            dueNumber(log, (g + 1) % 2, 2, 6, g - 1);
            due("use(0)", log.use(0), 3);
            due("use(1)", log.use(1), 3);
        }
    }

    private void queueKeepsOrder() {
        sentence("1", "WRITES of BLOCKS go to the QUEUE, one behind the other.");
        SegmentLog log = withFiles(64, 1);
        adds(log, 1, 3 * 61);
        due("count(6)", log.count(6), 61);
        for (int i = 0; i < 61; i++) {
            due("queued(" + i + ")", log.queued(i), 3 + i);
        }
        due("queued(61)", log.queued(61), NONE);
        dueZeroBlock(log, 3);
        dueZeroBlock(log, 63);
    }

    private void syncEmptiesTheQueue() {
        sentence("1", "SYNC: all are on THE DISK, in order, the QUEUE is empty.");
        SegmentLog log = fullOfLog(64);
        due("sync()", log.sync(), 62);
        dueQueue(log);
        for (int b = 2; b < 64; b++) {
            dueNumber(log, b, 2, 6, 3 * (b - 2) + 1);
        }
        due("bad()", log.bad(), NONE);
        due("sync(), an empty QUEUE", log.sync(), 0);
    }

    private void powerFailsAtEveryByte() {
        sentence("1", "When power fails behind n bytes, the first n of the QUEUE are on THE DISK");
        SegmentLog all = fullOfLog(5);
        all.sync();
        for (int n = 0; n <= 200; n++) {
            SegmentLog log = fullOfLog(5);
            due("crash(" + n + ")", log.crash(n), Math.min(3, n / 64));
            for (int i = 0; i < 3 * 64; i++) {
                int due = i < n ? all.octet(2 + i / 64, i % 64) : 0;
                due("crash(" + n + "), byte " + i, log.octet(2 + i / 64, i % 64), due);
            }
        }
    }

    private void powerFailsOverOldBytes() {
        sentence("1", "(of a BLOCK its first ones), the others are not");
        for (int n = 0; n <= 64; n++) {
            SegmentLog log = new SegmentLog();
            for (int i = 0; i < 3; i++) {
                log.add(-1, -1);
            }
            log.commit(-1);
            SegmentLog old = new SegmentLog();
            for (int i = 0; i < 3; i++) {
                old.add(-1, -1);
            }
            old.sync();
            log.add(0x55, 0x55);
            log.flush();
            due("queued(0)", log.queued(0), 2);
            due("crash(" + n + ")", log.crash(n), n / 64);
            int[] made = {1, 1, 4, 0, 0, 0, 0, 0, 0x55, 0, 0, 0, 0, 0, 0, 0, 0x55};
            for (int i = 0; i < 56; i++) {
                int written = i < made.length ? made[i] : 0;
                due("octet(2, " + i + ")", log.octet(2, i), i < n ? written : old.octet(2, i));
            }
            due("open()", log.open(), n == 64 ? 4 : 3);
        }
    }
}
