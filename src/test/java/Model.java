import java.util.ArrayList;
import java.util.Comparator;
import java.util.HashSet;
import java.util.List;
import java.util.Set;

/**
 * The document once more, held in lists and computed anew at every question:
 * slow and plain, and built differently from the program.
 */
final class Model {
    static final int BAD = -1, NONE = -2, FULL = -3, CLOSED = -4, TURN = -5;

    record Entry(long key, long value, long sequence) {
    }

    record Write(int block, byte[] bytes) {
    }

    record LogBlock(int block, List<Entry> entries) {
    }

    record FileOf(int number, int first, int blocks, List<Entry> entries) {
    }

    record HeadOf(long generation, long next, List<int[]> files) {
    }

    byte[][] disk = new byte[16][64];
    boolean open = true;
    List<Write> queue = new ArrayList<>();
    List<Entry> waiting = new ArrayList<>();
    List<LogBlock> log = new ArrayList<>();
    List<FileOf> files = new ArrayList<>();
    long generation;
    long next = 1;
    int latest;

    int format(int n) {
        if (n < 4 || n > 64) {
            return BAD;
        }
        disk = new byte[n][64];
        forget();
        open = true;
        return 0;
    }

    private void forget() {
        queue = new ArrayList<>();
        waiting = new ArrayList<>();
        log = new ArrayList<>();
        files = new ArrayList<>();
        generation = 0;
        next = 1;
        latest = 0;
    }

    int add(long key, long value) {
        if (!open) {
            return CLOSED;
        }
        if (waiting.size() == 2 && freeBlocks().isEmpty()) {
            return FULL;
        }
        waiting.add(new Entry(key, value, next));
        if (waiting.size() == 3) {
            flush();
        }
        return (int) next++;
    }

    int flush() {
        if (!open) {
            return CLOSED;
        }
        if (waiting.isEmpty()) {
            return 0;
        }
        if (freeBlocks().isEmpty()) {
            return FULL;
        }
        int block = freeBlocks().get(0);
        byte[] bytes = new byte[64];
        bytes[0] = 1;
        bytes[1] = (byte) waiting.size();
        put(bytes, 2, 6, waiting.get(0).sequence());
        putEntries(bytes, waiting);
        queue.add(sealed(block, bytes));
        log.add(new LogBlock(block, waiting));
        int many = waiting.size();
        waiting = new ArrayList<>();
        return many;
    }

    int sync() {
        if (!open) {
            return CLOSED;
        }
        return write(Integer.MAX_VALUE);
    }

    int commit(int n) {
        if (n < -1) {
            return BAD;
        }
        if (!open) {
            return CLOSED;
        }
        List<Entry> loose = looseEntries();
        if (loose.isEmpty()) {
            return 0;
        }
        List<FileOf> stay = new ArrayList<>(files);
        List<Entry> all = new ArrayList<>();
        if (files.size() == 5) {
            files.forEach(f -> all.addAll(f.entries()));
            stay.clear();
        }
        all.addAll(loose);
        all.sort(Comparator.comparingLong(Entry::key));
        int blocks = all.size() / 3 + (all.size() % 3 == 0 ? 0 : 1);
        int first = leastRun(blocks);
        if (first < 0) {
            return FULL;
        }
        FileOf made = new FileOf(latest + 1, first, blocks, all);
        stay.add(made);
        queueFile(made);
        queueHead(generation + 1, stay);
        if (n >= 0 && n < 64 * queue.size()) {
            write(n);
            close();
            return NONE;
        }
        write(Integer.MAX_VALUE);
        files = stay;
        log.clear();
        waiting = new ArrayList<>();
        generation++;
        latest++;
        return (int) generation;
    }

    private void queueFile(FileOf made) {
        for (int place = 0; place < made.blocks(); place++) {
            List<Entry> part = made.entries().subList(3 * place, Math.min(made.entries().size(), 3 * place + 3));
            byte[] bytes = new byte[64];
            bytes[0] = 2;
            bytes[1] = (byte) part.size();
            put(bytes, 2, 2, made.number());
            put(bytes, 4, 2, place);
            put(bytes, 6, 2, made.blocks());
            putEntries(bytes, part);
            queue.add(sealed(made.first() + place, bytes));
        }
    }

    private void queueHead(long itsGeneration, List<FileOf> named) {
        byte[] bytes = new byte[64];
        bytes[0] = 3;
        bytes[1] = (byte) named.size();
        put(bytes, 2, 6, itsGeneration);
        int at = 8;
        for (FileOf f : named) {
            put(bytes, at, 2, f.number());
            put(bytes, at + 2, 2, f.first());
            put(bytes, at + 4, 2, f.blocks());
            put(bytes, at + 6, 2, f.entries().size());
            at += 8;
        }
        put(bytes, 48, 8, next);
        queue.add(sealed((int) (itsGeneration % 2), bytes));
    }

    int crash(int n) {
        if (n < 0) {
            return BAD;
        }
        if (!open) {
            return CLOSED;
        }
        int whole = write(n);
        close();
        return whole;
    }

    private void close() {
        forget();
        open = false;
    }

    int open() {
        if (open) {
            return TURN;
        }
        HeadOf head = greaterHead();
        for (int[] f : head.files()) {
            for (int place = 0; place < f[2]; place++) {
                if (!fits(f, place)) {
                    return -10 - (f[1] + place);
                }
            }
        }
        generation = head.generation();
        next = head.next();
        for (int[] f : head.files()) {
            List<Entry> entries = new ArrayList<>();
            for (int i = 0; i < f[3]; i++) {
                entries.add(entryAt(f[1] + i / 3, i % 3, 0));
            }
            files.add(new FileOf(f[0], f[1], f[2], entries));
            latest = Math.max(latest, f[0]);
        }
        replay();
        open = true;
        return all().size();
    }

    private HeadOf greaterHead() {
        HeadOf found = new HeadOf(0, 1, List.of());
        for (int b = 0; b < 2; b++) {
            HeadOf head = headAt(b);
            if (head != null && head.generation() > found.generation()) {
                found = head;
            }
        }
        return found;
    }

    private HeadOf headAt(int b) {
        byte[] bytes = disk[b];
        long itsGeneration = number(bytes, 2, 6);
        long itsNext = number(bytes, 48, 8);
        int many = bytes[1] & 255;
        if (!whole(b) || bytes[0] != 3 || many > 5 || itsGeneration % 2 != b) {
            return null;
        }
        if (itsGeneration < 1 || itsGeneration > 1000000000 || itsNext < 1 || itsNext > 1000000000) {
            return null;
        }
        Set<Integer> taken = new HashSet<>();
        List<int[]> named = new ArrayList<>();
        for (int i = 0; i < many; i++) {
            int[] f = new int[4];
            for (int k = 0; k < 4; k++) {
                f[k] = (int) number(bytes, 8 + 8 * i + 2 * k, 2);
            }
            if (f[1] < 2 || f[2] < 1 || f[3] <= 3 * (f[2] - 1) || f[3] > 3 * f[2]) {
                return null;
            }
            for (int block = f[1]; block < f[1] + f[2]; block++) {
                if (!taken.add(block)) {
                    return null;
                }
            }
            named.add(f);
        }
        return new HeadOf(itsGeneration, itsNext, named);
    }

    private boolean fits(int[] f, int place) {
        if (f[1] + place >= disk.length) {
            return false;
        }
        byte[] bytes = disk[f[1] + place];
        int due = place < f[2] - 1 ? 3 : f[3] - 3 * (f[2] - 1);
        return whole(f[1] + place) && bytes[0] == 2 && bytes[1] == due && number(bytes, 2, 2) == f[0]
            && number(bytes, 4, 2) == place && number(bytes, 6, 2) == f[2];
    }

    private void replay() {
        boolean found = true;
        while (found) {
            found = false;
            for (int b = 2; b < disk.length && !found; b++) {
                byte[] bytes = disk[b];
                if (use0(b) == 0 && whole(b) && bytes[0] == 1 && bytes[1] >= 1 && bytes[1] <= 3
                    && number(bytes, 2, 6) == next) {
                    List<Entry> entries = new ArrayList<>();
                    for (int i = 0; i < bytes[1]; i++) {
                        entries.add(entryAt(b, i, next++));
                    }
                    log.add(new LogBlock(b, entries));
                    found = true;
                }
            }
        }
        for (int b = 2; b < disk.length; b++) {
            if (use0(b) == 0 && whole(b) && disk[b][0] == 1) {
                disk[b] = new byte[64];
            }
        }
    }

    int acknowledged() {
        if (!open) {
            return CLOSED;
        }
        long up = next - 1 - looseEntries().size();
        for (LogBlock l : log) {
            if (inQueue(l.block())) {
                break;
            }
            up += l.entries().size();
        }
        return (int) up;
    }

    long get(long key) {
        long value = 0;
        for (Entry e : all()) {
            value = e.key() == key ? e.value() : value;
        }
        return value;
    }

    int times(long key) {
        return open ? (int) all().stream().filter(e -> e.key() == key).count() : CLOSED;
    }

    long record(int i, int what) {
        List<Entry> all = all();
        if (!open || i < 0 || i >= all.size() || what < 0 || what > 2) {
            return 0;
        }
        Entry e = all.get(i);
        if (what < 2) {
            return what == 0 ? e.key() : e.value();
        }
        if (waiting.stream().anyMatch(w -> w == e)) {
            return 2;
        }
        return looseEntries().stream().anyMatch(w -> w == e) ? 1 : 0;
    }

    int file(int i, int what) {
        if (i < 0 || i > 4 || what < 0 || what > 3) {
            return BAD;
        }
        if (!open) {
            return CLOSED;
        }
        if (i >= files.size()) {
            return BAD;
        }
        FileOf f = files.get(i);
        return new int[] {f.number(), f.first(), f.blocks(), f.entries().size()}[what];
    }

    int use(int b) {
        if (b < 0 || b >= disk.length) {
            return BAD;
        }
        return open ? use0(b) : CLOSED;
    }

    private int use0(int b) {
        if (b < 2) {
            return 3;
        }
        if (log.stream().anyMatch(l -> l.block() == b)) {
            return 1;
        }
        return files.stream().anyMatch(f -> b >= f.first() && b < f.first() + f.blocks()) ? 2 : 0;
    }

    int octet(int b, int i) {
        return b < 0 || b >= disk.length || i < 0 || i > 63 ? BAD : disk[b][i] & 255;
    }

    int poke(int b, int i, int mask) {
        if (octet(b, i) == BAD || mask < 1 || mask > 255) {
            return BAD;
        }
        disk[b][i] ^= (byte) mask;
        return octet(b, i);
    }

    int bad() {
        if (!open) {
            return CLOSED;
        }
        for (int b = 0; b < disk.length; b++) {
            boolean head = b < 2 && generation > 0 && b == generation % 2;
            boolean other = b >= 2 && use0(b) != 0 && !inQueue(b);
            if ((head || other) && !whole(b)) {
                return b;
            }
        }
        return NONE;
    }

    int queued(int i) {
        if (!open) {
            return CLOSED;
        }
        return i < 0 || i >= queue.size() ? NONE : queue.get(i).block();
    }

    int count(int what) {
        if (what < 0 || what > 10) {
            return BAD;
        }
        if (what == 0) {
            return disk.length;
        }
        if (!open) {
            return 0;
        }
        long[] counts = {0, freeBlocks().size(), files.size(), all().size(), waiting.size(), log.size(),
            queue.size(), generation, next, 1, latest};
        return (int) counts[what];
    }

    private List<Integer> freeBlocks() {
        List<Integer> free = new ArrayList<>();
        for (int b = 2; b < disk.length; b++) {
            if (use0(b) == 0) {
                free.add(b);
            }
        }
        return free;
    }

    private int leastRun(int blocks) {
        List<Integer> free = freeBlocks();
        for (int i = 0; i + blocks <= free.size(); i++) {
            if (free.get(i + blocks - 1) == free.get(i) + blocks - 1) {
                return free.get(i);
            }
        }
        return -1;
    }

    private List<Entry> looseEntries() {
        List<Entry> loose = new ArrayList<>();
        log.forEach(l -> loose.addAll(l.entries()));
        loose.addAll(waiting);
        return loose;
    }

    private List<Entry> all() {
        List<Entry> all = new ArrayList<>();
        files.forEach(f -> all.addAll(f.entries()));
        all.addAll(looseEntries());
        all.sort(Comparator.comparingLong(Entry::key));
        return all;
    }

    private boolean inQueue(int block) {
        return queue.stream().anyMatch(w -> w.block() == block);
    }

    private int write(int n) {
        int left = n;
        int whole = 0;
        for (Write w : queue) {
            int part = Math.min(left, 64);
            System.arraycopy(w.bytes(), 0, disk[w.block()], 0, part);
            left -= part;
            whole += part == 64 ? 1 : 0;
        }
        queue.clear();
        return whole;
    }

    private Entry entryAt(int block, int place, long sequence) {
        return new Entry(number(disk[block], 8 + 16 * place, 8), number(disk[block], 16 + 16 * place, 8), sequence);
    }

    private static void putEntries(byte[] bytes, List<Entry> entries) {
        int at = 8;
        for (Entry e : entries) {
            put(bytes, at, 8, e.key());
            put(bytes, at + 8, 8, e.value());
            at += 16;
        }
    }

    private static Write sealed(int block, byte[] bytes) {
        put(bytes, 56, 8, sum(block, bytes));
        return new Write(block, bytes);
    }

    private boolean whole(int b) {
        return number(disk[b], 56, 8) == sum(b, disk[b]);
    }

    private static long sum(int block, byte[] bytes) {
        long s = block;
        for (int i = 0; i < 56; i++) {
            s = Long.rotateLeft(s ^ (bytes[i] & 255), 11) * 0x9E3779B97F4A7C15L;
        }
        return s;
    }

    private static long number(byte[] bytes, int at, int length) {
        long number = 0;
        for (int i = 0; i < length; i++) {
            number |= (bytes[at + i] & 255L) << (8 * i);
        }
        return number;
    }

    private static void put(byte[] bytes, int at, int length, long number) {
        for (int i = 0; i < length; i++) {
            bytes[at + i] = (byte) (number >>> (8 * i));
        }
    }
}
