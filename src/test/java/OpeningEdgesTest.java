/** Part 3 of the document, OPENING: a test for each clause that names a boundary. */
public final class OpeningEdgesTest extends Steps {
    public static void main(String[] args) {
        OpeningEdgesTest test = new OpeningEdgesTest();
        test.onlyWhenClosed();
        test.headIsWhole();
        test.headIsOfSortThree();
        test.generationOfHead();
        test.nextSequenceOfHead();
        test.atMostFiveFiles();
        test.filesFromBlockTwoOn();
        test.filesOfOneBlockAtLeast();
        test.moreThanThreeForAllButOne();
        test.noMoreThanThreeForAll();
        test.noneOverAnother();
        test.filesBehindTheDisk();
        test.headInItsOwnBlock();
        test.greaterOfTwo();
        test.lesserWhenTheGreaterDoesNotCount();
        test.withoutHead();
        test.withoutHeadLogFromOne();
        test.fileBlocksAreWhole();
        test.fileBlocksAreOfSortTwo();
        test.fileBlocksHaveTheirNumber();
        test.fileBlocksHaveTheirPlace();
        test.fileBlocksHaveTheirNumberOfBlocks();
        test.fileBlocksHaveTheirRecords();
        test.firstWrongFileByFile();
        test.staysClosed();
        test.leastLogBlock();
        test.logFromBlockTwoOn();
        test.logNotOfFiles();
        test.logIsWhole();
        test.logIsOfSortOne();
        test.logOfOneToThree();
        test.logWithTheNextSequence();
        test.logGoesOnBehind();
        test.logFillsTheDisk();
        test.othersBecomeZero();
        test.othersStay();
        test.wipedAtOnce();
        test.nothingWaits();
        test.check.end();
    }

    /** FILE 1 in BLOCKS 3 to 5, of 3, 3 and 1 records; LOG that is of no more use in 2 and, with a gap, in 6. */
    private static SegmentLog oneFile() {
        SegmentLog log = closed(new SegmentLog());
        Forge.head(log, 1, 1, 8, 1, 3, 3, 7);
        Forge.fileBlock(log, 3, 1, 0, 3, 3, 1);
        Forge.fileBlock(log, 4, 1, 1, 3, 3, 4);
        Forge.fileBlock(log, 5, 1, 2, 3, 1, 7);
        Forge.logBlock(log, 2, 3, 1);
        Forge.logBlock(log, 6, 1, 9);
        return log;
    }

    /** A HEAD that counts is seen by its GENERATION, or by the BLOCK that is told. */
    private static boolean counts(SegmentLog log) {
        return log.open() <= -10 || log.count(7) > 0;
    }

    private void dueHead(String what, boolean want, long generation, long next, int... files) {
        SegmentLog log = closed(new SegmentLog());
        Forge.head(log, (int) (generation & 1), generation, next, files);
        due(what, counts(log) ? 1 : 0, want ? 1 : 0);
    }

    private void dueFiles(String what, boolean want, int... files) {
        dueHead(what, want, 1, 9, files);
        dueHead(what, want, 2, 9, files);
    }

    private void onlyWhenClosed() {
        sentence("3", "OPENING, of a store that is CLOSED");
        SegmentLog log = busy();
        dueRefused("open()", log, log::open, TURN);
        SegmentLog fresh = new SegmentLog();
        dueRefused("open()", fresh, fresh::open, TURN);
        log.crash(0);
        due("open()", log.open(), 8);
        dueRefused("open()", log, log::open, TURN);
    }

    private void headIsWhole() {
        sentence("3", "THE HEAD is that of BLOCKS 0, 1 that is WHOLE");
        for (int generation = 1; generation <= 2; generation++) {
            for (int bit = 0; bit < 512; bit++) {
                SegmentLog log = closed(new SegmentLog());
                Forge.head(log, generation % 2, generation, 9);
                log.poke(generation % 2, bit / 8, 1 << bit % 8);
                due("open()", log.open(), 0);
                due("count(7), bit " + bit, log.count(7), 0);
                log.crash(0);
                log.poke(generation % 2, bit / 8, 1 << bit % 8);
                log.open();
                due("count(7)", log.count(7), generation);
            }
        }
    }

    private void headIsOfSortThree() {
        sentence("3", "of SORT 3");
        for (int sort = 0; sort <= 255; sort++) {
            SegmentLog log = closed(new SegmentLog());
            Forge.head(log, 1, 1, 9);
            Forge.change(log, 1, 0, 1, sort);
            due("open()", log.open(), 0);
            due("count(7), SORT " + sort, log.count(7), sort == 3 ? 1 : 0);
        }
    }

    private void generationOfHead() {
        sentence("3", "with a GENERATION .. 1 .. 1000000000");
        dueHead("0", false, 0, 9);
        dueHead("1", true, 1, 9);
        dueHead("2", true, 2, 9);
        dueHead("999999999", true, 999999999, 9);
        dueHead("1000000000", true, 1000000000, 9);
        dueHead("1000000001", false, 1000000001, 9);
        dueHead("1000000002", false, 1000000002, 9);
        dueHead("of four bytes, below 0 as an int", false, 0xFFFFFFFFL, 9);
        dueHead("1 beside a fifth byte", false, 0x0100000001L, 9);
        dueHead("1 beside a sixth byte", false, 0x010000000001L, 9);
        dueHead("the greatest of six bytes", false, 0xFFFFFFFFFFFFL, 9);
    }

    private void nextSequenceOfHead() {
        sentence("3", "and a next SEQUENCE 1 .. 1000000000");
        dueHead("0", false, 1, 0);
        dueHead("1", true, 1, 1);
        dueHead("999999999", true, 1, 999999999);
        dueHead("1000000000", true, 1, 1000000000);
        dueHead("1000000001", false, 1, 1000000001);
        dueHead("below 0 as an int", false, 1, 0xFFFFFFFFL);
        for (int bit = 32; bit < 64; bit++) {
            dueHead("5 and bit " + bit, false, 1, 5 | 1L << bit);
        }
        dueHead("-1", false, 1, -1);
        dueHead("the least", false, 1, Long.MIN_VALUE);
        dueHead("the greatest", false, 1, Long.MAX_VALUE);
    }

    private void atMostFiveFiles() {
        sentence("3", "at most five FILES");
        int[] five = {1, 2, 1, 1, 2, 3, 1, 1, 3, 4, 1, 1, 4, 5, 1, 1, 5, 6, 1, 1};
        dueFiles("five", true, five);
        dueFiles("none", true);
        for (int many = 6; many <= 255; many++) {
            SegmentLog log = closed(new SegmentLog());
            Forge.head(log, 1, 1, 9, five);
            Forge.change(log, 1, 1, 1, many);
            due("open(), " + many, log.open(), 0);
            due("count(7), " + many, log.count(7), 0);
        }
        SegmentLog opened = closed(new SegmentLog());
        Forge.head(opened, 1, 1, 9, five);
        for (int i = 0; i < 5; i++) {
            Forge.fileBlock(opened, i + 2, i + 1, 0, 1, 1, i);
        }
        due("open(), five", opened.open(), 5);
        due("count(2)", opened.count(2), 5);
        dueFile(opened, 4, 5, 6, 1, 1);
    }

    private void filesFromBlockTwoOn() {
        sentence("3", "each from BLOCK 2 on");
        dueFiles("0", false, 1, 0, 1, 1);
        dueFiles("1", false, 1, 1, 1, 1);
        dueFiles("2", true, 1, 2, 1, 1);
        dueFiles("3", true, 1, 3, 1, 1);
        dueFiles("from 0 into 2", false, 1, 0, 3, 9);
        dueFiles("from 1 into 2", false, 1, 1, 2, 6);
        dueFiles("the fifth from 1", false, 1, 2, 1, 1, 2, 3, 1, 1, 3, 4, 1, 1, 4, 5, 1, 1, 5, 1, 1, 1);
    }

    private void filesOfOneBlockAtLeast() {
        sentence("3", "of one BLOCK at least");
        dueFiles("none, no record", false, 1, 2, 0, 0);
        dueFiles("none, one record", false, 1, 2, 0, 1);
        dueFiles("one", true, 1, 2, 1, 1);
        dueFiles("none for the second", false, 1, 2, 1, 1, 2, 5, 0, 0);
    }

    private void moreThanThreeForAllButOne() {
        sentence("3", "with more records than three for all but one of its BLOCKS");
        dueFiles("none in one BLOCK", false, 1, 2, 1, 0);
        dueFiles("one in one BLOCK", true, 1, 2, 1, 1);
        dueFiles("three in two", false, 1, 2, 2, 3);
        dueFiles("four in two", true, 1, 2, 2, 4);
        dueFiles("39 in 14", false, 1, 2, 14, 39);
        dueFiles("40 in 14", true, 1, 2, 14, 40);
        dueFiles("one in 65535", false, 1, 2, 65535, 1);
        dueFiles("65535 in 21846", false, 1, 2, 21846, 65535);
    }

    private void noMoreThanThreeForAll() {
        sentence("3", "no more than three for all");
        dueFiles("three in one BLOCK", true, 1, 2, 1, 3);
        dueFiles("four in one", false, 1, 2, 1, 4);
        dueFiles("six in two", true, 1, 2, 2, 6);
        dueFiles("seven in two", false, 1, 2, 2, 7);
        dueFiles("42 in 14", true, 1, 2, 14, 42);
        dueFiles("43 in 14", false, 1, 2, 14, 43);
        dueFiles("65535 in one", false, 1, 2, 1, 65535);
        dueFiles("65535 in 21845", true, 1, 2, 21845, 65535);
    }

    private void noneOverAnother() {
        sentence("3", "none over another one");
        for (int first = 2; first <= 13; first++) {
            for (int blocks = 1; blocks <= 3; blocks++) {
                boolean apart = first + blocks <= 6 || first >= 9;
                String what = "BLOCKS " + first + " .. of " + blocks;
                dueFiles(what, apart, 1, 6, 3, 9, 2, first, blocks, 3 * blocks);
                dueFiles(what, apart, 2, first, blocks, 3 * blocks, 1, 6, 3, 9);
            }
        }
        dueFiles("first and fifth", false, 1, 9, 1, 1, 2, 2, 1, 1, 3, 3, 1, 1, 4, 4, 1, 1, 5, 9, 1, 1);
        dueFiles("fourth and fifth", false, 1, 9, 1, 1, 2, 2, 1, 1, 3, 3, 1, 1, 4, 4, 2, 4, 5, 5, 1, 1);
        dueFiles("all apart", true, 1, 9, 1, 1, 2, 2, 1, 1, 3, 3, 1, 1, 4, 4, 2, 4, 5, 6, 1, 1);
        dueFiles("behind THE DISK", false, 1, 65535, 2, 4, 2, 65535, 1, 1);
    }

    /** The document asks nothing of a HEAD about the end of THE DISK; the BLOCK that is not there is told. */
    private void filesBehindTheDisk() {
        sentence("3", "All BLOCKS of its FILES must be WHOLE (those that THE DISK does not have)");
        for (int n = 4; n <= 64; n += 12) {
            SegmentLog log = closed(formatted(n));
            Forge.head(log, 1, 1, 9, 1, n, 1, 1);
            due("open(), BLOCK " + n, log.open(), -10 - n);
            Forge.head(log, 1, 1, 9, 1, n - 1, 2, 6);
            Forge.fileBlock(log, n - 1, 1, 0, 2, 3, 1);
            due("open(), BLOCKS " + (n - 1) + ", " + n, log.open(), -10 - n);
            Forge.head(log, 1, 1, 9, 1, 65535, 1, 1);
            due("open(), BLOCK 65535", log.open(), -10 - 65535);
            Forge.head(log, 1, 1, 9, 1, n - 1, 1, 3);
            Forge.fileBlock(log, n - 1, 1, 0, 1, 3, 1);
            due("open(), BLOCK " + (n - 1), log.open(), 3);
        }
    }

    private void headInItsOwnBlock() {
        sentence("3", "in the BLOCK that is for its GENERATION");
        for (int generation = 1; generation <= 4; generation++) {
            for (int block = 0; block <= 2; block++) {
                SegmentLog log = closed(new SegmentLog());
                Forge.head(log, block, generation, 9);
                due("open()", log.open(), 0);
                boolean own = block == generation % 2;
                due("GENERATION " + generation + " in BLOCK " + block, log.count(7), own ? generation : 0);
            }
        }
    }

    private void greaterOfTwo() {
        sentence("3", "the greater one of two");
        int[][] pairs = {{2, 1}, {2, 3}, {1000000000, 999999999}, {1000000000, 1}, {2, 999999999}, {256, 255},
            {256, 257}, {65536, 65535}};
        for (int[] pair : pairs) {
            SegmentLog log = closed(new SegmentLog());
            Forge.head(log, 0, pair[0], 50);
            Forge.head(log, 1, pair[1], 60);
            due("open()", log.open(), 0);
            due("count(7)", log.count(7), Math.max(pair[0], pair[1]));
            due("count(8)", log.count(8), pair[0] > pair[1] ? 50 : 60);
        }
    }

    private void lesserWhenTheGreaterDoesNotCount() {
        sentence("3", "the greater one of two (one of which does not count)");
        SegmentLog log = withFiles(16, 2);
        log.crash(0);
        Forge.head(log, 0, 2, 9, 1, 1, 1, 1);
        due("open(), FILE in BLOCK 1", log.open(), 1);
        log.crash(0);
        Forge.head(log, 0, 1000000002, 9);
        due("open(), GENERATION too great", log.open(), 1);
        log.crash(0);
        Forge.head(log, 0, 3, 9);
        due("open(), in the wrong BLOCK", log.open(), 1);
        log.crash(0);
        Forge.head(log, 0, 2, 0);
        due("open(), next SEQUENCE 0", log.open(), 1);
        due("count(7)", log.count(7), 1);
        log.crash(0);
        Forge.head(log, 0, 2, 9, 1, 9, 1, 1);
        due("open(): one that counts is taken, though its FILE is wrong", log.open(), -10 - 9);
    }

    private void withoutHead() {
        sentence("3", "without one there are no FILES, the GENERATION is 0, the next SEQUENCE 1");
        SegmentLog log = withFiles(16, 5);
        log.poke(0, 63, 1);
        log.poke(1, 63, 1);
        log.crash(0);
        due("open()", log.open(), 0);
        dueCounts(log, 16, 14, 0, 0, 0, 0, 0, 0, 1, 1, 0);
        due("acknowledged()", log.acknowledged(), 0);
        due("bad()", log.bad(), NONE);
        due("file(0, 0)", log.file(0, 0), BAD);
        due("add", log.add(1, 1), 1);
        due("commit(-1)", log.commit(-1), 1);
        dueFile(log, 0, 1, 2, 1, 1);
    }

    private void withoutHeadLogFromOne() {
        sentence("3", "without one .. the next SEQUENCE 1 (and there is LOG)");
        SegmentLog log = new SegmentLog();
        adds(log, 1, 6);
        log.commit(-1);
        log.poke(1, 63, 1);
        log.crash(0);
        due("open(): the LOG of before the COMMIT", log.open(), 6);
        dueCounts(log, 16, 12, 0, 6, 0, 2, 0, 0, 7, 1, 0);
        dueUses(log, 3, 3, 1, 1, 0, 0);
    }

    private void fileBlocksAreWhole() {
        sentence("3", "All BLOCKS of its FILES must be WHOLE");
        for (int block = 3; block <= 5; block++) {
            SegmentLog log = oneFile();
            for (int bit = 0; bit < 512; bit++) {
                log.poke(block, bit / 8, 1 << bit % 8);
                due("open(), bit " + bit, log.open(), -10 - block);
                log.poke(block, bit / 8, 1 << bit % 8);
            }
            due("open()", log.open(), 7);
        }
    }

    /** Every other value of these bytes, in a BLOCK that is WHOLE. */
    private void dueByte(int block, int at, int right) {
        SegmentLog log = oneFile();
        due("octet(" + block + ", " + at + ")", log.octet(block, at), right);
        for (int value = 0; value <= 255; value++) {
            if (value != right) {
                Forge.change(log, block, at, 1, value);
                due("open(), byte " + at + " is " + value, log.open(), -10 - block);
            }
        }
        Forge.change(log, block, at, 1, right);
        due("open()", log.open(), 7);
    }

    private void fileBlocksAreOfSortTwo() {
        sentence("3", "of SORT 2");
        dueByte(3, 0, 2);
        dueByte(5, 0, 2);
    }

    private void fileBlocksHaveTheirNumber() {
        sentence("3", "with their FILE's number");
        dueByte(4, 2, 1);
        dueByte(4, 3, 0);
    }

    private void fileBlocksHaveTheirPlace() {
        sentence("3", "place");
        for (int place = 0; place < 3; place++) {
            dueByte(3 + place, 4, place);
            dueByte(3 + place, 5, 0);
        }
    }

    private void fileBlocksHaveTheirNumberOfBlocks() {
        sentence("3", "and number of BLOCKS");
        dueByte(3, 6, 3);
        dueByte(5, 7, 0);
    }

    private void fileBlocksHaveTheirRecords() {
        sentence("3", "and as many records as come to them");
        dueByte(3, 1, 3);
        dueByte(4, 1, 3);
        dueByte(5, 1, 1);
        for (int records = 1; records <= 3; records++) {
            SegmentLog log = closed(new SegmentLog());
            Forge.head(log, 1, 1, 9, 7, 3, 2, 3 + records);
            Forge.fileBlock(log, 3, 7, 0, 2, 3, 1);
            Forge.fileBlock(log, 4, 7, 1, 2, records, 4);
            due("open()", log.open(), 3 + records);
        }
    }

    private void firstWrongFileByFile() {
        sentence("3", "the first that is not, FILE by FILE, is told");
        int[] blocks = {9, 10, 3, 4, 6, 2, 12};
        for (int from = 0; from < blocks.length; from++) {
            SegmentLog log = closed(new SegmentLog());
            Forge.head(log, 1, 1, 40, 1, 9, 2, 6, 2, 3, 2, 6, 3, 6, 1, 3, 4, 2, 1, 3, 5, 12, 1, 3);
            Forge.fileBlock(log, 9, 1, 0, 2, 3, 1);
            Forge.fileBlock(log, 10, 1, 1, 2, 3, 1);
            Forge.fileBlock(log, 3, 2, 0, 2, 3, 1);
            Forge.fileBlock(log, 4, 2, 1, 2, 3, 1);
            Forge.fileBlock(log, 6, 3, 0, 1, 3, 1);
            Forge.fileBlock(log, 2, 4, 0, 1, 3, 1);
            Forge.fileBlock(log, 12, 5, 0, 1, 3, 1);
            for (int i = from; i < blocks.length; i++) {
                log.poke(blocks[i], 30, 1);
            }
            for (int i = from; i < blocks.length; i++) {
                due("open()", log.open(), -10 - blocks[i]);
                log.poke(blocks[i], 30, 1);
            }
            due("open(), all mended", log.open(), 21);
        }
    }

    private void staysClosed() {
        sentence("3", "is told, and it stays CLOSED");
        SegmentLog log = oneFile();
        log.poke(4, 30, 1);
        dueRefused("open()", log, log::open, -10 - 4);
        dueRefused("open(), again", log, log::open, -10 - 4);
        dueCounts(log, 16, 0, 0, 0, 0, 0, 0, 0, 0, 0, 0);
        due("add", log.add(1, 1), CLOSED);
        due("crash(0)", log.crash(0), CLOSED);
        due("get(1)", log.get(1), 0);
        due("octet(2, 0): LOG is not looked at", log.octet(2, 0), 1);
        log.poke(4, 30, 1);
        due("open(), mended", log.open(), 7);
        SegmentLog other = oneFile();
        other.poke(4, 30, 1);
        other.open();
        due("format(4)", other.format(4), 0);
        dueCounts(other, 4, 2, 0, 0, 0, 0, 0, 0, 1, 1, 0);
    }

    private void leastLogBlock() {
        sentence("3", "Then LOG: the BLOCK (the least ..");
        SegmentLog log = closed(new SegmentLog());
        Forge.logBlock(log, 15, 1, 1);
        Forge.logBlock(log, 7, 2, 1);
        Forge.logBlock(log, 8, 3, 1);
        due("open()", log.open(), 2);
        due("use(7)", log.use(7), 1);
        due("count(8)", log.count(8), 3);
        dueZeroBlock(log, 8);
        dueZeroBlock(log, 15);
        due("count(5)", log.count(5), 1);
    }

    /** Only what counts is asked here: whether such a BLOCK 0 or 1 stays is not said in so many words. */
    private void logFromBlockTwoOn() {
        sentence("3", "from 2 on");
        for (int block = 0; block <= 3; block++) {
            SegmentLog log = closed(new SegmentLog());
            Forge.logBlock(log, block, 3, 1);
            due("open(), LOG in BLOCK " + block, log.open(), block < 2 ? 0 : 3);
            due("use(" + block + ")", log.use(block), block < 2 ? 3 : 1);
            due("count(8)", log.count(8), block < 2 ? 1 : 4);
        }
        SegmentLog last = closed(formatted(64));
        Forge.logBlock(last, 63, 3, 1);
        due("open(), in the last BLOCK", last.open(), 3);
        due("use(63)", last.use(63), 1);
    }

    private void logNotOfFiles() {
        sentence("3", "not of FILES");
        SegmentLog log = closed(new SegmentLog());
        Forge.head(log, 1, 1, 5, 1, 3, 1, 1);
        Forge.logBlock(log, 3, 3, 5);
        dueRefused("open(): a FILE's BLOCK is no LOG", log, log::open, -10 - 3);
        Forge.fileBlock(log, 3, 1, 0, 1, 1, 1);
        Forge.logBlock(log, 2, 1, 5);
        Forge.logBlock(log, 4, 1, 6);
        due("open()", log.open(), 3);
        dueUses(log, 3, 3, 1, 2, 1, 0);
    }

    private void logIsWhole() {
        sentence("3", "LOG: the BLOCK .. that is WHOLE");
        for (int bit = 0; bit < 512; bit++) {
            SegmentLog log = new SegmentLog();
            adds(log, 1, 3);
            log.crash(64);
            log.poke(2, bit / 8, 1 << bit % 8);
            int left = log.octet(2, bit / 8);
            due("open(), bit " + bit, log.open(), 0);
            due("use(2)", log.use(2), 0);
            due("octet: it stays", log.octet(2, bit / 8), left);
        }
    }

    private void logIsOfSortOne() {
        sentence("3", "LOG: .. of SORT 1");
        for (int sort = 0; sort <= 255; sort++) {
            SegmentLog log = closed(new SegmentLog());
            Forge.logBlock(log, 5, 2, 1);
            Forge.change(log, 5, 0, 1, sort);
            due("open(), SORT " + sort, log.open(), sort == 1 ? 2 : 0);
            due("use(5)", log.use(5), sort == 1 ? 1 : 0);
            due("octet(5, 0)", log.octet(5, 0), sort);
        }
    }

    private void logOfOneToThree() {
        sentence("3", "LOG: .. of 1 to 3 records");
        for (int records = 0; records <= 255; records++) {
            boolean fits = records >= 1 && records <= 3;
            SegmentLog log = closed(new SegmentLog());
            Forge.logBlock(log, 5, records, 1);
            due("open(), " + records, log.open(), fits ? records : 0);
            due("count(8)", log.count(8), fits ? records + 1 : 1);
            due("octet(5, 0): what does not count becomes 0", log.octet(5, 0), fits ? 1 : 0);
        }
        SegmentLog behind = closed(new SegmentLog());
        Forge.logBlock(behind, 4, 0, 1);
        Forge.logBlock(behind, 5, 4, 1);
        Forge.logBlock(behind, 6, 1, 1);
        due("open(): the least that fits", behind.open(), 1);
        due("use(6)", behind.use(6), 1);
    }

    private void logWithTheNextSequence() {
        sentence("3", "LOG: .. with the next SEQUENCE, counts");
        for (long sequence : new long[] {0, 1, 8, 9, 10, 11, 12, 0x010000000AL, 0x01000000000AL, 0xFFFFFFFFFFFFL}) {
            SegmentLog log = closed(new SegmentLog());
            Forge.head(log, 1, 1, 10);
            Forge.logBlock(log, 5, 3, sequence);
            due("open(), " + sequence, log.open(), sequence == 10 ? 3 : 0);
            due("count(8)", log.count(8), sequence == 10 ? 13 : 10);
            due("octet(5, 0)", log.octet(5, 0), sequence == 10 ? 1 : 0);
        }
    }

    private void logGoesOnBehind() {
        sentence("3", "the SEQUENCE goes on behind it, and so on");
        for (int records = 1; records <= 3; records++) {
            SegmentLog log = closed(new SegmentLog());
            Forge.logBlock(log, 9, records, 1);
            Forge.logBlock(log, 4, 1, records + 1);
            Forge.logBlock(log, 12, 3, records + 2);
            Forge.logBlock(log, 3, 3, records + 6);
            due("open(): one is missing ahead of the last", log.open(), records + 4);
            due("count(8)", log.count(8), records + 5);
            due("count(5)", log.count(5), 3);
            dueZeroBlock(log, 3);
        }
        SegmentLog inside = closed(new SegmentLog());
        Forge.logBlock(inside, 2, 3, 1);
        Forge.logBlock(inside, 3, 1, 2);
        Forge.logBlock(inside, 4, 1, 3);
        due("open(): none begins inside another", inside.open(), 3);
        dueZeroBlock(inside, 3);
        dueZeroBlock(inside, 4);
    }

    private void logFillsTheDisk() {
        sentence("3", "and so on (up to the last BLOCK)");
        for (int n : new int[] {4, 64}) {
            SegmentLog log = closed(formatted(n));
            for (int b = 2; b < n; b++) {
                Forge.logBlock(log, b, 3, 3L * (n - 1 - b) + 1);
            }
            int records = 3 * (n - 2);
            due("open(), backwards", log.open(), records);
            dueCounts(log, n, 0, 0, records, 0, n - 2, 0, 0, records + 1, 1, 0);
            due("record of the last", log.record(records - 1, 0), records);
            due("add", log.add(0, 0), records + 1);
            due("add", log.add(0, 0), records + 2);
            dueRefused("add", log, () -> log.add(0, 0), FULL);
            dueRefused("flush()", log, log::flush, FULL);
            dueRefused("commit(-1)", log, () -> log.commit(-1), FULL);
        }
    }

    private void othersBecomeZero() {
        sentence("3", "All other BLOCKS not of FILES that are WHOLE and of SORT 1 become 0, on THE DISK at once.");
        SegmentLog log = closed(formatted(64));
        Forge.head(log, 1, 1, 100, 1, 3, 1, 2);
        Forge.fileBlock(log, 3, 1, 0, 1, 2, 1);
        Forge.logBlock(log, 2, 3, 97);
        Forge.logBlock(log, 4, 1, 100);
        Forge.logBlock(log, 5, 2, 100);
        Forge.logBlock(log, 6, 3, 102);
        Forge.logBlock(log, 62, 0, 101);
        Forge.logBlock(log, 63, 255, 101);
        due("open()", log.open(), 3);
        for (int b : new int[] {2, 5, 6, 62, 63}) {
            dueZeroBlock(log, b);
            due("use(" + b + ")", log.use(b), 0);
        }
        due("octet(4, 0)", log.octet(4, 0), 1);
        due("use(4)", log.use(4), 1);
        due("octet(3, 0)", log.octet(3, 0), 2);
        due("count(1)", log.count(1), 60);
    }

    private void othersStay() {
        sentence("3", "All other BLOCKS .. WHOLE and of SORT 1 (those that are not, stay)");
        SegmentLog log = closed(new SegmentLog());
        Forge.logBlock(log, 2, 3, 50);
        log.poke(2, 60, 4);
        Forge.fileBlock(log, 3, 1, 0, 1, 1, 1);
        Forge.head(log, 4, 2, 9);
        Forge.logBlock(log, 5, 3, 50);
        Forge.change(log, 5, 0, 1, 0);
        Forge.logBlock(log, 6, 3, 50);
        Forge.change(log, 6, 0, 1, 129);
        for (int i = 0; i < 64; i++) {
            log.poke(7, i, 255);
        }
        int[][] left = new int[6][64];
        for (int i = 0; i < 6 * 64; i++) {
            left[i / 64][i % 64] = log.octet(2 + i / 64, i % 64);
        }
        due("open()", log.open(), 0);
        for (int i = 0; i < 6 * 64; i++) {
            due("octet(" + (2 + i / 64) + ", " + i % 64 + ")", log.octet(2 + i / 64, i % 64), left[i / 64][i % 64]);
        }
        due("count(1)", log.count(1), 14);
        due("bad()", log.bad(), NONE);
    }

    /** Without it, LOG of before a crash would count behind new LOG whose SEQUENCES lead up to it. */
    private void wipedAtOnce() {
        sentence("3", "become 0, on THE DISK at once");
        SegmentLog log = new SegmentLog();
        adds(log, 1, 9);
        log.sync();
        log.poke(2, 20, 1);
        log.crash(0);
        due("open(): the first LOG BLOCK is lost", log.open(), 0);
        due("octet(3, 0)", log.octet(3, 0), 0);
        due("octet(4, 0)", log.octet(4, 0), 0);
        adds(log, 21, 23);
        due("crash(64)", log.crash(64), 1);
        due("open(): the old LOG does not come back", log.open(), 3);
        due("count(8)", log.count(8), 4);
    }

    private void nothingWaits() {
        sentence("3", "Nothing waits then, the QUEUE is empty.");
        SegmentLog log = busy();
        due("count(4)", log.count(4), 1);
        due("count(6)", log.count(6), 1);
        log.crash(0);
        due("open()", log.open(), 8);
        due("count(4)", log.count(4), 0);
        dueQueue(log);
        due("flush()", log.flush(), 0);
        due("sync()", log.sync(), 0);
        due("crash(MAX)", log.crash(Integer.MAX_VALUE), 0);
        SegmentLog failed = busy();
        due("commit(10)", failed.commit(10), NONE);
        due("open()", failed.open(), 8);
        due("count(4)", failed.count(4), 0);
        dueQueue(failed);
    }
}
