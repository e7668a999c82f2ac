/** Changes BLOCKS on THE DISK by poke alone, so that their SUMS fit again. */
final class Forge {
    private Forge() {
    }

    /** The SUM as the document tells it, over the bytes that octet() answers. */
    static long sum(SegmentLog log, int block) {
        long s = block;
        for (int i = 0; i < 56; i++) {
            s = Long.rotateLeft(s ^ log.octet(block, i), 11) * 0x9E3779B97F4A7C15L;
        }
        return s;
    }

    static boolean whole(SegmentLog log, int block) {
        return number(log, block, 56, 8) == sum(log, block);
    }

    static long number(SegmentLog log, int block, int at, int length) {
        long number = 0;
        for (int i = 0; i < length; i++) {
            number |= (long) log.octet(block, at + i) << (8 * i);
        }
        return number;
    }

    static void set(SegmentLog log, int block, int at, int length, long number) {
        for (int i = 0; i < length; i++) {
            int mask = log.octet(block, at + i) ^ (int) (number >>> (8 * i) & 255);
            if (mask != 0) {
                log.poke(block, at + i, mask);
            }
        }
    }

    static void seal(SegmentLog log, int block) {
        set(log, block, 56, 8, sum(log, block));
    }

    /** A change of one number of a BLOCK that leaves it WHOLE. */
    static void change(SegmentLog log, int block, int at, int length, long number) {
        set(log, block, at, length, number);
        seal(log, block);
    }

    static void clear(SegmentLog log, int block) {
        for (int i = 0; i < 64; i++) {
            set(log, block, i, 1, 0);
        }
    }

    /** A LOG BLOCK with records key = value = sequence. */
    static void logBlock(SegmentLog log, int block, int records, long sequence) {
        clear(log, block);
        set(log, block, 0, 1, 1);
        set(log, block, 1, 1, records);
        set(log, block, 2, 6, sequence);
        for (int i = 0; i < records && i < 3; i++) {
            set(log, block, 8 + 16 * i, 8, sequence + i);
            set(log, block, 16 + 16 * i, 8, sequence + i);
        }
        seal(log, block);
    }

    /** A HEAD, its FILES told by four numbers each. */
    static void head(SegmentLog log, int block, long generation, long next, int... files) {
        clear(log, block);
        set(log, block, 0, 1, 3);
        set(log, block, 1, 1, files.length / 4);
        set(log, block, 2, 6, generation);
        for (int i = 0; i < files.length; i++) {
            set(log, block, 8 + 2 * i, 2, files[i]);
        }
        set(log, block, 48, 8, next);
        seal(log, block);
    }

    /** A BLOCK of a FILE with records key = value = first, first + 1, .. */
    static void fileBlock(SegmentLog log, int block, int number, int place, int blocks, int records, long first) {
        clear(log, block);
        set(log, block, 0, 1, 2);
        set(log, block, 1, 1, records);
        set(log, block, 2, 2, number);
        set(log, block, 4, 2, place);
        set(log, block, 6, 2, blocks);
        for (int i = 0; i < records && i < 3; i++) {
            set(log, block, 8 + 16 * i, 8, first + i);
            set(log, block, 16 + 16 * i, 8, first + i);
        }
        seal(log, block);
    }
}
