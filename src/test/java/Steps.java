import java.util.ArrayList;
import java.util.Arrays;
import java.util.List;
import java.util.function.IntSupplier;

/** What the tests of the document's sentences have in common: making stores, and looking at all of one. */
abstract class Steps {
    static final int BAD = -1, NONE = -2, FULL = -3, CLOSED = -4, TURN = -5;
    final Check check = new Check();

    final void due(String call, long got, long want) {
        check.due(call, got, want);
    }

    final void part(String name) {
        check.part(name);
    }

    /** The words of the document that the answers behind this call are due by. */
    final void sentence(String where, String words) {
        check.part(where + " \"" + words + "\"");
    }

    /** Records key = from .. to, value = 10 * key. */
    static void adds(SegmentLog log, int from, int to) {
        for (int key = from; key <= to; key++) {
            log.add(key, 10L * key);
        }
    }

    static SegmentLog formatted(int n) {
        SegmentLog log = new SegmentLog();
        log.format(n);
        return log;
    }

    static SegmentLog closed(SegmentLog log) {
        log.crash(0);
        return log;
    }

    /** So many FILES of one record each, with keys 1, 2, .. */
    static SegmentLog withFiles(int n, int files) {
        SegmentLog log = formatted(n);
        for (int i = 1; i <= files; i++) {
            adds(log, i, i);
            log.commit(-1);
        }
        return log;
    }

    /** All BLOCKS from 2 on are of LOG, in the QUEUE; nothing waits. */
    static SegmentLog fullOfLog(int n) {
        SegmentLog log = formatted(n);
        adds(log, 1, 3 * (n - 2));
        return log;
    }

    /** FILE, LOG on THE DISK, LOG in the QUEUE and a record that waits, on 16 BLOCKS. */
    static SegmentLog busy() {
        SegmentLog log = new SegmentLog();
        adds(log, 1, 5);
        log.commit(-1);
        adds(log, 6, 8);
        log.sync();
        adds(log, 3, 6);
        return log;
    }

    final void dueCounts(SegmentLog log, int... counts) {
        for (int what = 0; what < counts.length; what++) {
            due("count(" + what + ")", log.count(what), counts[what]);
        }
    }

    final void dueFile(SegmentLog log, int i, int... fields) {
        for (int what = 0; what < fields.length; what++) {
            due("file(" + i + ", " + what + ")", log.file(i, what), fields[what]);
        }
    }

    final void dueUses(SegmentLog log, int... uses) {
        for (int b = 0; b < uses.length; b++) {
            due("use(" + b + ")", log.use(b), uses[b]);
        }
    }

    final void dueQueue(SegmentLog log, int... blocks) {
        for (int i = 0; i < blocks.length; i++) {
            due("queued(" + i + ")", log.queued(i), blocks[i]);
        }
        due("queued(" + blocks.length + ")", log.queued(blocks.length), NONE);
        due("count(6)", log.count(6), blocks.length);
    }

    /** The records of all, as record() tells them: key, value, place of each. */
    final void dueRecords(SegmentLog log, long... rows) {
        for (int i = 0; i < rows.length; i++) {
            due("record(" + i / 3 + ", " + i % 3 + ")", log.record(i / 3, i % 3), rows[i]);
        }
        due("count(3)", log.count(3), rows.length / 3);
    }

    final void dueZeroDisk(SegmentLog log, int blocks) {
        for (int b = 0; b < blocks; b++) {
            dueZeroBlock(log, b);
        }
    }

    final void dueZeroBlock(SegmentLog log, int block) {
        for (int i = 0; i < 64; i++) {
            due("octet(" + block + ", " + i + ")", log.octet(block, i), 0);
        }
    }

    /** The first bytes of a BLOCK; those behind them are 0, and the SUM fits. */
    final void dueBytes(SegmentLog log, int block, int... bytes) {
        for (int i = 0; i < 56; i++) {
            due("octet(" + block + ", " + i + ")", log.octet(block, i), i < bytes.length ? bytes[i] : 0);
        }
        check.dueTrue("SUM of " + block, Forge.whole(log, block));
    }

    final void dueNumber(SegmentLog log, int block, int at, int length, long number) {
        due("bytes " + at + " .. of " + block, Forge.number(log, block, at, length), number);
    }

    final void dueRecordsOnDisk(SegmentLog log, int first, long[] keys, long[] values) {
        for (int i = 0; i < keys.length; i++) {
            int at = 8 + 16 * (i % 3);
            due("key " + i + " on THE DISK", Forge.number(log, first + i / 3, at, 8), keys[i]);
            due("value " + i + " on THE DISK", Forge.number(log, first + i / 3, at + 8, 8), values[i]);
        }
    }

    /** The call answers what is due, and nothing that can be asked is another than before. */
    final void dueRefused(String call, SegmentLog log, IntSupplier answer, int want) {
        long[] before = everything(log);
        due(call, answer.getAsInt(), want);
        check.dueTrue(call + " changes nothing", Arrays.equals(before, everything(log)));
    }

    /** All that a store answers, without the calls that change it. */
    static long[] everything(SegmentLog log) {
        List<Long> all = new ArrayList<>();
        for (int what = 0; what <= 10; what++) {
            all.add((long) log.count(what));
        }
        all.add((long) log.acknowledged());
        all.add((long) log.bad());
        for (int i = 0; i < log.count(3); i++) {
            for (int what = 0; what <= 2; what++) {
                all.add(log.record(i, what));
            }
            all.add(log.get(log.record(i, 0)));
            all.add((long) log.times(log.record(i, 0)));
        }
        for (int i = 0; i < 20; i++) {
            all.add((long) log.file(i / 4, i % 4));
        }
        for (int i = 0; i < 64; i++) {
            all.add((long) log.queued(i));
            all.add((long) log.use(i));
        }
        for (int i = 0; i < 64 * log.count(0); i++) {
            all.add((long) log.octet(i / 64, i % 64));
        }
        return all.stream().mapToLong(Long::longValue).toArray();
    }
}
