/**
 * A store of records on a small disk whose power may fail at any byte.
 *
 * <p>All rows are made once, in the constructor: no call makes an object.
 */
public final class SegmentLog {
    public static final int BAD = -1, NONE = -2, FULL = -3, CLOSED = -4, TURN = -5;

    private static final int LEAST_BLOCKS = 4;
    private static final int MOST_BLOCKS = 64;
    private static final int NEW_BLOCKS = 16;
    private static final int BLOCK_BYTES = 64;
    private static final int SUM_AT = 56;
    private static final long SUM_FACTOR = 0x9E3779B97F4A7C15L;

    private static final int SORT_LOG = 1;
    private static final int SORT_FILE = 2;
    private static final int SORT_HEAD = 3;

    private static final int RECORDS_AT = 8;
    private static final int RECORD_BYTES = 16;
    private static final int PER_BLOCK = 3;
    private static final int MOST_RECORDS = MOST_BLOCKS * PER_BLOCK;

    private static final int HEADS = 2;
    private static final int MOST_FILES = 5;
    private static final int FILE_FIELDS = 4;
    private static final int FILE_NUMBER = 0, FILE_FIRST = 1, FILE_BLOCKS = 2, FILE_RECORDS = 3;
    private static final int NEXT_AT = 48;
    private static final long GREATEST = 1000000000L;

    private static final int FREE = 0, OF_LOG = 1, OF_FILE = 2, OF_HEADS = 3;
    /** Only while opening: a whole LOG BLOCK of which it is not yet known whether it counts. */
    private static final int OF_OLD_LOG = 4;

    private static final int WRONG_BLOCK = -10;

    private final Blocks disk;
    private final Uses uses;
    private final Queue queue;
    private final Table table;
    private Head head;
    private Head spare;
    private boolean isOpen;
    private int next;
    private int waiting;
    private int safe;
    private int latestFile;

    public SegmentLog() {
        disk = new Blocks(NEW_BLOCKS);
        uses = new Uses(NEW_BLOCKS);
        queue = new Queue();
        table = new Table();
        head = new Head();
        spare = new Head();
        isOpen = true;
        next = 1;
    }

    public int format(int n) {
        if (n < LEAST_BLOCKS || n > MOST_BLOCKS) {
            return BAD;
        }
        disk.renew(n);
        head.clear();
        forget();
        isOpen = true;
        return 0;
    }

    // ---- records

    public int add(long key, long value) {
        if (!isOpen) {
            return CLOSED;
        }
        boolean fillsBlock = waiting + 1 >= PER_BLOCK;
        if (fillsBlock && uses.leastFree() == NONE) {
            return FULL;
        }
        int sequence = next;
        table.insert(key, value, sequence);
        next++;
        waiting++;
        if (fillsBlock) {
            queueLog(uses.leastFree());
        }
        return sequence;
    }

    public int flush() {
        if (!isOpen) {
            return CLOSED;
        }
        if (waiting == 0) {
            return 0;
        }
        int block = uses.leastFree();
        if (block == NONE) {
            return FULL;
        }
        int records = waiting;
        queueLog(block);
        return records;
    }

    public int sync() {
        if (!isOpen) {
            return CLOSED;
        }
        safe = next - 1 - waiting;
        return queue.drain(disk, queue.bytes());
    }

    public int commit(int n) {
        if (n < -1) {
            return BAD;
        }
        if (!isOpen) {
            return CLOSED;
        }
        int loose = next - head.next;
        if (loose <= 0) {
            return 0;
        }
        boolean merge = head.files == MOST_FILES;
        int records = merge ? table.size : loose;
        int blocks = blocksFor(records);
        int first = uses.leastRun(blocks);
        if (first == NONE) {
            return FULL;
        }
        planHead(merge, first, blocks, records);
        queueFile(merge);
        queueHead();
        if (n >= 0 && n < queue.bytes()) {
            queue.drain(disk, n);
            isOpen = false;
            return NONE;
        }
        queue.drain(disk, queue.bytes());
        takePlannedHead(merge);
        return head.generation;
    }

    public int crash(int n) {
        if (n < 0) {
            return BAD;
        }
        if (!isOpen) {
            return CLOSED;
        }
        isOpen = false;
        return queue.drain(disk, n);
    }

    public int open() {
        if (isOpen) {
            return TURN;
        }
        chooseHead();
        int wrong = firstWrongBlock();
        if (wrong != NONE) {
            return WRONG_BLOCK - wrong;
        }
        forget();
        for (int i = 0; i < head.files; i++) {
            readFile(i);
        }
        replayLog();
        safe = next - 1;
        isOpen = true;
        return table.size;
    }

    public int acknowledged() {
        return isOpen ? safe : CLOSED;
    }

    public long get(long key) {
        int behind = table.upTo(key);
        boolean found = isOpen && behind > table.below(key);
        return found ? table.value(behind - 1) : 0;
    }

    public int times(long key) {
        return isOpen ? table.upTo(key) - table.below(key) : CLOSED;
    }

    public long record(int i, int what) {
        if (!isOpen || !table.has(i)) {
            return 0;
        }
        switch (what) {
            case 0:
                return table.key(i);
            case 1:
                return table.value(i);
            case 2:
                return placeOf(table.sequence(i));
            default:
                return 0;
        }
    }

    // ---- files, blocks

    public int file(int i, int what) {
        if (i < 0 || i >= MOST_FILES || what < 0 || what >= FILE_FIELDS) {
            return BAD;
        }
        if (!isOpen) {
            return CLOSED;
        }
        return i < head.files ? head.field(i, what) : BAD;
    }

    public int use(int b) {
        if (!disk.has(b, 0)) {
            return BAD;
        }
        return isOpen ? uses.of(b) : CLOSED;
    }

    public int octet(int b, int i) {
        return disk.has(b, i) ? disk.value(b, i) : BAD;
    }

    public int poke(int b, int i, int mask) {
        if (!disk.has(b, i) || mask < 1 || mask > 255) {
            return BAD;
        }
        disk.put(b, i, disk.value(b, i) ^ mask);
        return disk.value(b, i);
    }

    public int bad() {
        if (!isOpen) {
            return CLOSED;
        }
        for (int b = 0; b < disk.size; b++) {
            if (shouldBeWhole(b) && !disk.isWhole(b)) {
                return b;
            }
        }
        return NONE;
    }

    public int queued(int i) {
        return isOpen ? queue.target(i) : CLOSED;
    }

    public int count(int what) {
        if (what < 0 || what > 10) {
            return BAD;
        }
        if (what == 0) {
            return disk.size;
        }
        return isOpen ? countOpen(what) : 0;
    }

    private int countOpen(int what) {
        switch (what) {
            case 1:
                return uses.howMany(FREE);
            case 2:
                return head.files;
            case 3:
                return table.size;
            case 4:
                return waiting;
            case 5:
                return uses.howMany(OF_LOG);
            case 6:
                return queue.size;
            case 7:
                return head.generation;
            case 8:
                return next;
            case 9:
                return 1;
            default:
                return latestFile;
        }
    }

    /** What is in memory becomes what the HEAD alone says. */
    private void forget() {
        uses.clear(disk.size);
        queue.clear();
        table.clear();
        next = head.next;
        waiting = 0;
        safe = 0;
        latestFile = 0;
    }

    private int placeOf(int sequence) {
        if (sequence == Table.IN_FILE) {
            return 0;
        }
        return sequence < next - waiting ? 1 : 2;
    }

    private boolean shouldBeWhole(int block) {
        switch (uses.of(block)) {
            case OF_LOG:
                return !queue.holds(block);
            case OF_FILE:
                return true;
            case OF_HEADS:
                return head.generation > 0 && head.generation % HEADS == block;
            default:
                return false;
        }
    }

    private static int blocksFor(int records) {
        return (records + PER_BLOCK - 1) / PER_BLOCK;
    }

    /** How many of a FILE's records stand in the BLOCK at this place of it. */
    private static int recordsAt(int place, int records) {
        return Math.min(PER_BLOCK, records - place * PER_BLOCK);
    }

    // ---- writing

    private void queueLog(int block) {
        int first = next - waiting;
        int slot = queue.append(block, SORT_LOG, waiting);
        queue.images.putNumber(slot, 2, 6, first);
        for (int i = 0; i < waiting; i++) {
            queueRecord(slot, i, table.withSequence(first + i));
        }
        queue.seal(slot);
        uses.mark(block, 1, OF_LOG);
        waiting = 0;
    }

    private void queueRecord(int slot, int place, int i) {
        int at = RECORDS_AT + place * RECORD_BYTES;
        queue.images.putNumber(slot, at, 8, table.key(i));
        queue.images.putNumber(slot, at + 8, 8, table.value(i));
    }

    /** The HEAD to come is made beside the present one, which must stay if power fails. */
    private void planHead(boolean merge, int first, int blocks, int records) {
        spare.clear();
        if (!merge) {
            spare.appendAll(head);
        }
        spare.append(latestFile + 1, first, blocks, records);
        spare.generation = head.generation + 1;
        spare.next = next;
    }

    /** The new FILE is the last one that the planned HEAD names. */
    private void queueFile(boolean merge) {
        int file = spare.files - 1;
        int blocks = spare.field(file, FILE_BLOCKS);
        int firstSlot = queue.size;
        for (int place = 0; place < blocks; place++) {
            int inBlock = recordsAt(place, spare.field(file, FILE_RECORDS));
            int slot = queue.append(spare.field(file, FILE_FIRST) + place, SORT_FILE, inBlock);
            queue.images.putNumber(slot, 2, 2, spare.field(file, FILE_NUMBER));
            queue.images.putNumber(slot, 4, 2, place);
            queue.images.putNumber(slot, 6, 2, blocks);
        }
        int done = 0;
        for (int i = 0; i < table.size; i++) {
            if (merge || table.sequence(i) != Table.IN_FILE) {
                queueRecord(firstSlot + done / PER_BLOCK, done % PER_BLOCK, i);
                done++;
            }
        }
        for (int place = 0; place < blocks; place++) {
            queue.seal(firstSlot + place);
        }
    }

    private void queueHead() {
        int slot = queue.append(spare.generation % HEADS, SORT_HEAD, spare.files);
        queue.images.putNumber(slot, 2, 6, spare.generation);
        for (int i = 0; i < spare.files; i++) {
            for (int what = 0; what < FILE_FIELDS; what++) {
                queue.images.putNumber(slot, Head.fieldAt(i, what), 2, spare.field(i, what));
            }
        }
        queue.images.putNumber(slot, NEXT_AT, 8, spare.next);
        queue.seal(slot);
    }

    private void takePlannedHead(boolean merge) {
        swapHeads();
        int file = head.files - 1;
        uses.turn(OF_LOG, FREE);
        if (merge) {
            uses.turn(OF_FILE, FREE);
        }
        uses.mark(head.field(file, FILE_FIRST), head.field(file, FILE_BLOCKS), OF_FILE);
        latestFile = head.field(file, FILE_NUMBER);
        table.settle();
        waiting = 0;
        safe = next - 1;
    }

    private void swapHeads() {
        Head other = head;
        head = spare;
        spare = other;
    }

    // ---- opening

    private void chooseHead() {
        head.read(disk, 0);
        spare.read(disk, 1);
        if (spare.generation > head.generation) {
            swapHeads();
        }
    }

    /** A HEAD counts wherever its FILES end: a BLOCK behind the end of THE DISK is a wrong one here. */
    private int firstWrongBlock() {
        for (int i = 0; i < head.files; i++) {
            for (int place = 0; place < head.field(i, FILE_BLOCKS); place++) {
                if (!isFileBlock(i, place)) {
                    return head.field(i, FILE_FIRST) + place;
                }
            }
        }
        return NONE;
    }

    private boolean isFileBlock(int i, int place) {
        int block = head.field(i, FILE_FIRST) + place;
        return disk.has(block, 0)
            && disk.isWhole(block)
            && disk.value(block, 0) == SORT_FILE
            && disk.value(block, 1) == recordsAt(place, head.field(i, FILE_RECORDS))
            && disk.number(block, 2, 2) == head.field(i, FILE_NUMBER)
            && disk.number(block, 4, 2) == place
            && disk.number(block, 6, 2) == head.field(i, FILE_BLOCKS);
    }

    private void readFile(int i) {
        int first = head.field(i, FILE_FIRST);
        int blocks = head.field(i, FILE_BLOCKS);
        for (int place = 0; place < blocks; place++) {
            for (int k = 0; k < recordsAt(place, head.field(i, FILE_RECORDS)); k++) {
                readRecord(first + place, k, Table.IN_FILE);
            }
        }
        uses.mark(first, blocks, OF_FILE);
        latestFile = Math.max(latestFile, head.field(i, FILE_NUMBER));
    }

    private void readRecord(int block, int place, int sequence) {
        int at = RECORDS_AT + place * RECORD_BYTES;
        table.insert(disk.number(block, at, 8), disk.number(block, at + 8, 8), sequence);
    }

    private void replayLog() {
        for (int b = HEADS; b < disk.size; b++) {
            if (uses.of(b) == FREE && disk.isWhole(b) && disk.value(b, 0) == SORT_LOG) {
                uses.mark(b, 1, OF_OLD_LOG);
            }
        }
        int block = nextLogBlock();
        for (int turn = 0; turn < disk.size && block != NONE; turn++) {
            readLogBlock(block);
            block = nextLogBlock();
        }
        wipeOldLog();
    }

    private int nextLogBlock() {
        for (int b = HEADS; b < disk.size; b++) {
            int records = disk.value(b, 1);
            if (uses.of(b) == OF_OLD_LOG && records >= 1 && records <= PER_BLOCK && disk.number(b, 2, 6) == next) {
                return b;
            }
        }
        return NONE;
    }

    private void readLogBlock(int block) {
        int records = disk.value(block, 1);
        for (int k = 0; k < records; k++) {
            readRecord(block, k, next + k);
        }
        next += records;
        uses.mark(block, 1, OF_LOG);
    }

    /** An old LOG BLOCK left on THE DISK could later fit the next SEQUENCE by chance. */
    private void wipeOldLog() {
        for (int b = HEADS; b < disk.size; b++) {
            if (uses.of(b) == OF_OLD_LOG) {
                disk.wipe(b);
            }
        }
        uses.turn(OF_OLD_LOG, FREE);
    }

    /** Rows of BLOCKS' bytes: THE DISK, or what the QUEUE will write. */
    private static final class Blocks {
        private final byte[] bytes;
        private int size;

        private Blocks(int size) {
            this.bytes = new byte[MOST_BLOCKS * BLOCK_BYTES];
            this.size = size;
        }

        private void renew(int newSize) {
            size = newSize;
            for (int b = 0; b < size; b++) {
                wipe(b);
            }
        }

        private boolean has(int block, int at) {
            return block >= 0 && block < size && block < MOST_BLOCKS && at >= 0 && at < BLOCK_BYTES;
        }

        private int value(int block, int at) {
            return has(block, at) ? bytes[block * BLOCK_BYTES + at] & 255 : 0;
        }

        private void put(int block, int at, int value) {
            if (has(block, at)) {
                bytes[block * BLOCK_BYTES + at] = (byte) value;
            }
        }

        private long number(int block, int at, int length) {
            long number = 0;
            for (int i = length - 1; i >= 0; i--) {
                number = (number << 8) | value(block, at + i);
            }
            return number;
        }

        private void putNumber(int block, int at, int length, long number) {
            long rest = number;
            for (int i = 0; i < length; i++) {
                put(block, at + i, (int) (rest & 255));
                rest >>>= 8;
            }
        }

        private void wipe(int block) {
            for (int i = 0; i < BLOCK_BYTES; i++) {
                put(block, i, 0);
            }
        }

        /** The SUM starts with the number of the BLOCK on THE DISK, which a row of the QUEUE does not have. */
        private long sum(int block, int numberOnDisk) {
            long sum = numberOnDisk;
            for (int i = 0; i < SUM_AT; i++) {
                long mixed = sum ^ value(block, i);
                sum = ((mixed << 11) | (mixed >>> 53)) * SUM_FACTOR;
            }
            return sum;
        }

        private boolean isWhole(int block) {
            return number(block, SUM_AT, 8) == sum(block, block);
        }
    }

    /** What each BLOCK of THE DISK is for the store. */
    private static final class Uses {
        private final int[] uses;
        private int size;

        private Uses(int size) {
            this.uses = new int[MOST_BLOCKS];
            clear(size);
        }

        private void clear(int newSize) {
            size = Math.min(newSize, MOST_BLOCKS);
            mark(0, size, FREE);
            mark(0, HEADS, OF_HEADS);
        }

        private int of(int block) {
            return block >= 0 && block < size ? uses[block] : FREE;
        }

        private void mark(int first, int blocks, int use) {
            for (int i = 0; i < blocks; i++) {
                int block = first + i;
                if (block >= 0 && block < size) {
                    uses[block] = use;
                }
            }
        }

        private void turn(int from, int to) {
            for (int b = 0; b < size; b++) {
                if (uses[b] == from) {
                    uses[b] = to;
                }
            }
        }

        private int howMany(int use) {
            int many = 0;
            for (int b = 0; b < size; b++) {
                if (uses[b] == use) {
                    many++;
                }
            }
            return many;
        }

        private int leastFree() {
            return leastRun(1);
        }

        private int leastRun(int blocks) {
            int run = 0;
            for (int b = 0; b < size; b++) {
                run = uses[b] == FREE ? run + 1 : 0;
                if (run >= blocks) {
                    return b - blocks + 1;
                }
            }
            return NONE;
        }
    }

    /** The WRITES that are not on THE DISK yet. */
    private static final class Queue {
        private final Blocks images;
        private final int[] targets;
        private int size;

        private Queue() {
            images = new Blocks(MOST_BLOCKS);
            targets = new int[MOST_BLOCKS];
        }

        private void clear() {
            size = 0;
        }

        private int bytes() {
            return size * BLOCK_BYTES;
        }

        private int target(int i) {
            return i >= 0 && i < size && i < MOST_BLOCKS ? targets[i] : NONE;
        }

        private boolean holds(int block) {
            for (int i = 0; i < size; i++) {
                if (target(i) == block) {
                    return true;
                }
            }
            return false;
        }

        /** The BLOCKS of LOG and of a new FILE differ, so there is room for all of them and a HEAD. */
        private int append(int target, int sort, int parts) {
            if (size >= MOST_BLOCKS) {
                return NONE;
            }
            int slot = size;
            size++;
            targets[slot] = target;
            images.wipe(slot);
            images.put(slot, 0, sort);
            images.put(slot, 1, parts);
            return slot;
        }

        private void seal(int slot) {
            images.putNumber(slot, SUM_AT, 8, images.sum(slot, target(slot)));
        }

        /** Only the first bytes reach THE DISK, the others are lost: how many BLOCKS did wholly. */
        private int drain(Blocks disk, int most) {
            int drained = Math.min(most, bytes());
            for (int i = 0; i < drained; i++) {
                int slot = i / BLOCK_BYTES;
                int at = i % BLOCK_BYTES;
                disk.put(target(slot), at, images.value(slot, at));
            }
            size = 0;
            return drained / BLOCK_BYTES;
        }
    }

    /** All records, by keys, of one key by age: a COMMIT never changes this order. */
    private static final class Table {
        /** FILES do not tell the SEQUENCES of their records. */
        private static final int IN_FILE = 0;

        private final long[] keys;
        private final long[] values;
        private final int[] sequences;
        private int size;

        private Table() {
            keys = new long[MOST_RECORDS];
            values = new long[MOST_RECORDS];
            sequences = new int[MOST_RECORDS];
        }

        private void clear() {
            size = 0;
        }

        private boolean has(int i) {
            return i >= 0 && i < size && i < MOST_RECORDS;
        }

        private long key(int i) {
            return has(i) ? keys[i] : 0;
        }

        private long value(int i) {
            return has(i) ? values[i] : 0;
        }

        private int sequence(int i) {
            return has(i) ? sequences[i] : IN_FILE;
        }

        /** The record is the latest one, so it goes behind those with its key. */
        private void insert(long key, long value, int sequence) {
            if (size >= MOST_RECORDS) {
                return;
            }
            int place = upTo(key);
            for (int i = size; i > place; i--) {
                keys[i] = keys[i - 1];
                values[i] = values[i - 1];
                sequences[i] = sequences[i - 1];
            }
            keys[place] = key;
            values[place] = value;
            sequences[place] = sequence;
            size++;
        }

        private int below(long key) {
            int many = 0;
            for (int i = 0; i < size && keys[i] < key; i++) {
                many++;
            }
            return many;
        }

        private int upTo(long key) {
            int many = 0;
            for (int i = 0; i < size && keys[i] <= key; i++) {
                many++;
            }
            return many;
        }

        private int withSequence(int sequence) {
            for (int i = 0; i < size; i++) {
                if (sequences[i] == sequence) {
                    return i;
                }
            }
            return NONE;
        }

        private void settle() {
            for (int i = 0; i < size; i++) {
                sequences[i] = IN_FILE;
            }
        }
    }

    /** What a HEAD says; one of GENERATION 0 stands for none. */
    private static final class Head {
        private final int[] fields;
        private int files;
        private int generation;
        private int next;

        private Head() {
            fields = new int[MOST_FILES * FILE_FIELDS];
            clear();
        }

        private void clear() {
            files = 0;
            generation = 0;
            next = 1;
        }

        private static int fieldAt(int i, int what) {
            return RECORDS_AT + 2 * (i * FILE_FIELDS + what);
        }

        private int field(int i, int what) {
            boolean there = i >= 0 && i < files && i < MOST_FILES && what >= 0 && what < FILE_FIELDS;
            return there ? fields[i * FILE_FIELDS + what] : 0;
        }

        private void append(int number, int first, int blocks, int records) {
            if (files >= MOST_FILES) {
                return;
            }
            int from = files * FILE_FIELDS;
            fields[from + FILE_NUMBER] = number;
            fields[from + FILE_FIRST] = first;
            fields[from + FILE_BLOCKS] = blocks;
            fields[from + FILE_RECORDS] = records;
            files++;
        }

        private void appendAll(Head from) {
            for (int i = 0; i < from.files; i++) {
                append(from.field(i, FILE_NUMBER), from.field(i, FILE_FIRST),
                    from.field(i, FILE_BLOCKS), from.field(i, FILE_RECORDS));
            }
        }

        /** Stays cleared, if the BLOCK is no HEAD that could count. */
        private void read(Blocks disk, int block) {
            clear();
            if (!disk.isWhole(block) || disk.value(block, 0) != SORT_HEAD) {
                return;
            }
            long itsGeneration = disk.number(block, 2, 6);
            long itsNext = disk.number(block, NEXT_AT, 8);
            boolean fits = inRange(itsGeneration) && inRange(itsNext) && itsGeneration % HEADS == block;
            if (!fits || !readFiles(disk, block)) {
                clear();
                return;
            }
            generation = (int) itsGeneration;
            next = (int) itsNext;
        }

        private static boolean inRange(long number) {
            return number >= 1 && number <= GREATEST;
        }

        private boolean readFiles(Blocks disk, int block) {
            int many = disk.value(block, 1);
            if (many > MOST_FILES) {
                return false;
            }
            for (int i = 0; i < many; i++) {
                int first = (int) disk.number(block, fieldAt(i, FILE_FIRST), 2);
                int blocks = (int) disk.number(block, fieldAt(i, FILE_BLOCKS), 2);
                int records = (int) disk.number(block, fieldAt(i, FILE_RECORDS), 2);
                boolean fits = first >= HEADS && blocks >= 1 && blocksFor(records) == blocks;
                if (!fits || overlaps(first, blocks)) {
                    return false;
                }
                append((int) disk.number(block, fieldAt(i, FILE_NUMBER), 2), first, blocks, records);
            }
            return true;
        }

        private boolean overlaps(int first, int blocks) {
            for (int i = 0; i < files; i++) {
                if (first < field(i, FILE_FIRST) + field(i, FILE_BLOCKS) && field(i, FILE_FIRST) < first + blocks) {
                    return true;
                }
            }
            return false;
        }
    }
}
