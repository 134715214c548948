/** The edges of the promises whose calls answer, and of the pad (1, and 9 to 22): a test for each sentence. */
public final class EdgeAnswersTest {
    private static final int MILLION = 1000000;
    private static final long NO_PRODUCT = -1000000000000L;
    private static final int MIN = Integer.MIN_VALUE;
    private static final int MAX = Integer.MAX_VALUE;
    private static final int[] NO_MATRIX = {-1, 4, MIN, MAX};
    private static final int[][] NO_PLACE = {{-1, 0}, {16, 0}, {0, -1}, {0, 16}, {-1, 16}, {MIN, 0}, {0, MIN},
        {MAX, 0}, {0, MAX}};

    private static final Due due = new Due();

    public static void main(String[] args) {
        newObject();
        atEachPlace();
        eachPlaceCounts();
        blockWhats();
        blockOfEachDepth();
        ofWhats();
        ofRoomAndDepth();
        ofBlocksOfEachSort();
        ofFilledEntries();
        ofTrace();
        ofGreatestAndLeast();
        ofItsTurned();
        productWithin();
        productSums();
        meanBits();
        shareBits();
        countWhats();
        countRoomAndEmptyOnes();
        countPadAndHistory();
        farDifferences();
        wouldTakeChangesNothing();
        isOneSquares();
        isOneAnswers();
        bestTimesWithin();
        bestTimesLowest();
        bestTimesEntries();
        putCodes();
        putHoles();
        putLengths();
        wipeLengths();
        faultChangesNothing();
        due.finish();
    }

    private static void is(String call, long got, long want) {
        due.is(call, got, want);
    }

    // ---- promise 1

    private static void newObject() {
        BlockTrees x = new BlockTrees();
        for (int m = 0; m < 4; m++) {
            int[] wanted = {0, 0, 1, 0, 0, 0, 0, 100000000, MILLION, MILLION, 1};
            for (int what = 0; what < wanted.length; what++) {
                is("of " + m + ", " + what, x.of(m, what), wanted[what]);
            }
            is("one block of 16", x.block(m, 15, 15, 1), 16);
        }
        int[] counts = {0, 15, 0, 0, 0};
        for (int what = 0; what < counts.length; what++) {
            is("count " + what, x.count(what), counts[what]);
        }
        is("no text", x.fault(), 0);
        is("nothing to undo", x.undo(), BlockTrees.NOT_POSSIBLE);
        is("nothing saved", x.restore(0), BlockTrees.NOT_POSSIBLE);
        is("nothing saved", x.restore(1), BlockTrees.NOT_POSSIBLE);
        is("nothing to wipe", x.wipe(), 0);
        x.entry(0, 0, 0, 5);
        is("each object is its own", new BlockTrees().count(0), 0);
    }

    // ---- promise 9

    // "Returns the entry and 1000000; NO_SUCH if there is no such matrix, row or column."
    private static void atEachPlace() {
        String[] texts = {"f1,2,3,4,5,6,7,8,9,10,11,12,13,14,15,16,17,18", "(d1d2d3d4)"};
        BlockTrees x = Due.told(texts);
        for (int cell = 0; cell < 256; cell++) {
            is("at " + cell, x.at(0, cell / 16, cell % 16), MILLION + Math.min(cell + 1, 18));
        }
        for (int cell = 0; cell < 128; cell++) {
            int row = cell / 8;
            is("at " + cell, x.at(1, row, 2 * row % 16), MILLION + 1 + row / 8 * 2 + 2 * row % 16 / 8);
        }
        x = new BlockTrees();
        x.entry(3, 0, 15, -MILLION);
        x.entry(3, 15, 0, MILLION);
        is("the least", x.at(3, 0, 15), 0);
        is("the greatest", x.at(3, 15, 0), 2 * MILLION);
        is("none", x.at(3, 15, 15), MILLION);
        for (int[] place : NO_PLACE) {
            is("no place " + place[0] + ", " + place[1], x.at(3, place[0], place[1]), BlockTrees.NO_SUCH);
        }
        for (int m : NO_MATRIX) {
            is("no matrix " + m, x.at(m, 0, 0), BlockTrees.NO_SUCH);
        }
    }

    /** No answer about all entries leaves one of them out, the first and the last ones neither. */
    private static void eachPlaceCounts() {
        for (int cell = 0; cell < 256; cell++) {
            int i = cell / 16;
            int j = cell % 16;
            String at = ", entry " + i + ", " + j;
            BlockTrees x = new BlockTrees();
            x.entry(0, i, j, 5);
            x.entry(1, i, j, -10);
            is("filled" + at, x.of(0, 6), 1);
            is("trace" + at, x.of(0, 7), i == j ? 100000005 : 100000000);
            is("greatest" + at, x.of(0, 8), MILLION + 5);
            is("least" + at, x.of(1, 9), MILLION - 10);
            is("product" + at, x.product(0, i, 7, 3), 5 * (7 + 3 * j));
            is("mean" + at, x.mean(0), Double.doubleToLongBits(5 / 256.0));
            is("far" + at, x.far(0, 1), 15);
            is("isOne" + at, x.isOne(0, 0, 0, 16), 1);
            is("times" + at, x.bestTimes(1, 0, 0), 102);
            is("entries" + at, x.bestTimes(1, 0, 1), 256);
            is("depth" + at, x.of(0, 1), 3);
        }
    }

    // ---- promise 10

    // "what: 0 its sort [..] 5 how deep it is"; "BAD_VALUE if what is out of range"
    private static void blockWhats() {
        BlockTrees x = Due.told("(000(d2d2d2d1))");
        int[] wanted = {BlockTrees.THIN, 4, 12, 12, 8, 2};
        for (int what = 0; what < 6; what++) {
            is("what " + what, x.block(0, 12, 15, what), wanted[what]);
        }
        for (int what : new int[] {-1, 6, 7, MIN, MAX}) {
            is("what " + what, x.block(0, 0, 0, what), BlockTrees.BAD_VALUE);
        }
        for (int[] place : NO_PLACE) {
            is("no place", x.block(0, place[0], place[1], 0), BlockTrees.NO_SUCH);
        }
        for (int m : NO_MATRIX) {
            is("no matrix", x.block(m, 0, 0, 0), BlockTrees.NO_SUCH);
        }
    }

    // "the block that is not CUT and has an entry": from its first to its last row and column, on each depth.
    private static void blockOfEachDepth() {
        String[] texts = {"%s", "(000%s)", "(000(000%s))", "(000(000(000%s)))"};
        String[] blocks = {"0", "f1", "d1"};
        for (int depth = 0; depth < 4; depth++) {
            for (int sort = 0; sort < 3; sort++) {
                BlockTrees x = Due.told(String.format(texts[depth], blocks[sort]));
                int size = 16 >> depth;
                int first = 16 - size;
                int[] wanted = {sort, size, first, first, sort == 0 ? 0 : sort == 1 ? size * size : 2 * size, depth};
                int[][] corners = {{first, first}, {first, 15}, {15, first}, {15, 15}};
                for (int[] corner : corners) {
                    for (int what = 0; what < 6; what++) {
                        is("depth " + depth + ", sort " + sort + ", what " + what,
                                x.block(0, corner[0], corner[1], what), wanted[what]);
                    }
                }
                if (depth > 0) {
                    is("above it", x.block(0, first - 1, 15, 2), 16 - 2 * size);
                    is("beside it", x.block(0, 15, first - 1, 3), 16 - 2 * size);
                    is("the row of what is beside it", x.block(0, 15, first - 1, 2), first);
                    is("the column of what is above it", x.block(0, first - 1, 15, 3), first);
                }
            }
        }
    }

    // ---- promise 11

    private static void ofWhats() {
        BlockTrees x = new BlockTrees();
        for (int what : new int[] {-1, 11, 12, MIN, MAX}) {
            is("what " + what, x.of(0, what), BlockTrees.BAD_VALUE);
        }
        for (int m : NO_MATRIX) {
            for (int what = 0; what <= 10; what++) {
                is("no matrix " + m, x.of(m, what), BlockTrees.NO_SUCH);
            }
        }
        for (int m = 0; m < 4; m++) {
            x.entry(m, m, m, m + 1);
            is("the greatest of " + m, x.of(m, 8), MILLION + m + 1);
        }
    }

    // "0 its room, 1 the depth of its deepest block"
    private static void ofRoomAndDepth() {
        String[] texts = {"0", "f1", "(0000)", "((0000)000)", "(000(0000))", "(((0000)000)000)", "(000(000(0000)))",
            "(00(0(0000)00)0)", "(d1d1d1d1)"};
        int[] rooms = {0, 256, 1, 2, 2, 3, 3, 3, 65};
        int[] depths = {0, 0, 1, 2, 2, 3, 3, 3, 1};
        for (int k = 0; k < texts.length; k++) {
            BlockTrees x = Due.told(texts[k]);
            is("room of " + texts[k], x.of(0, 0), rooms[k]);
            is("depth of " + texts[k], x.of(0, 1), depths[k]);
        }
        for (int corner = 0; corner < 4; corner++) {
            BlockTrees x = new BlockTrees();
            x.entry(0, corner / 2 * 15, corner % 2 * 15, 0);
            is("depth, corner " + corner, x.of(0, 1), 3);
            is("room, corner " + corner, x.of(0, 0), 7);
        }
    }

    // "2 to 5 blocks that are EMPTY, FULL, THIN, CUT"
    private static void ofBlocksOfEachSort() {
        String[] texts = {"0", "f0", "d0", "(0000)", "(0f1d2d3)", "((0000)f1(0f1d1(f1f1d1d0))d0)"};
        int[][] wanted = {{1, 0, 0, 0}, {0, 1, 0, 0}, {0, 0, 1, 0}, {4, 0, 0, 1}, {1, 1, 2, 1}, {5, 4, 4, 4}};
        for (int k = 0; k < texts.length; k++) {
            BlockTrees x = Due.told(texts[k]);
            for (int sort = 0; sort < 4; sort++) {
                is("blocks of " + texts[k] + ", sort " + sort, x.of(0, 2 + sort), wanted[k][sort]);
            }
        }
        BlockTrees x = new BlockTrees();
        for (int block = 0; block < 64; block++) {
            x.entry(0, block / 8 * 2, block % 8 * 2, 0);
            is("FULL ones", x.of(0, 3), block + 1);
        }
        is("no EMPTY one is left", x.of(0, 2), 0);
        is("all that can be CUT", x.of(0, 5), 21);
        x.clear(0, 5, 5);
        is("one of 64", x.of(0, 2), 1);
        is("63 of 64", x.of(0, 3), 63);
    }

    // "6 entries that are not 0"
    private static void ofFilledEntries() {
        String[] texts = {"0", "f0", "d0", "d1", "d-1", "f0,1", "f1,0", "(000f0,0,0,5,0)", "u0,1,0v0,0,3,0"};
        int[] filled = {0, 0, 0, 256, 256, 255, 1, 1, 1};
        for (int k = 0; k < texts.length; k++) {
            is("filled of " + texts[k], Due.told(texts[k]).of(0, 6), filled[k]);
        }
        BlockTrees x = new BlockTrees();
        x.entry(0, 15, 15, -1);
        is("the last one", x.of(0, 6), 1);
        x.entry(0, 0, 0, 1);
        is("the first one", x.of(0, 6), 2);
        x.entry(0, 15, 15, 0);
        is("one less", x.of(0, 6), 1);
    }

    // "7 its trace (the sum of the entries whose row is their column) and 100000000"
    private static void ofTrace() {
        BlockTrees x = new BlockTrees();
        for (int k = 0; k < 16; k++) {
            x.entry(0, k, k, k + 1);
            is("up to " + k, x.of(0, 7), 100000000 + (k + 1) * (k + 2) / 2);
            x.entry(0, k, 15 - k, 500);
        }
        is("not what is crosswise", x.of(0, 7), 100000000 + 136);
        Due.fill(x, 0, 1);
        is("the greatest", x.of(0, 7), 116000000);
        Due.fill(x, 0, -1);
        is("the least", x.of(0, 7), 84000000);
    }

    // "8 its greatest entry and 1000000, 9 its least entry and 1000000"
    private static void ofGreatestAndLeast() {
        String[] texts = {"0", "d5", "d-5", "f5", "(d-1d-1d-1d-2)", "(000d-1)", "(000d1)", "f0,-1", "f1,0"};
        int[] greatest = {0, 5, -5, 5, -1, 0, 1, 0, 1};
        int[] least = {0, 5, -5, 5, -2, -1, 0, -1, 0};
        for (int k = 0; k < texts.length; k++) {
            BlockTrees x = Due.told(texts[k]);
            is("greatest of " + texts[k], x.of(0, 8), MILLION + greatest[k]);
            is("least of " + texts[k], x.of(0, 9), MILLION + least[k]);
        }
        for (int corner = 0; corner < 4; corner++) {
            BlockTrees x = new BlockTrees();
            x.entry(0, corner / 2 * 15, corner % 2 * 15, MILLION);
            is("the greatest that can be", x.of(0, 8), 2 * MILLION);
            is("the least then", x.of(0, 9), MILLION);
            x.entry(0, corner / 2 * 15, corner % 2 * 15, -MILLION);
            is("the least that can be", x.of(0, 9), 0);
            is("the greatest then", x.of(0, 8), MILLION);
        }
        BlockTrees x = new BlockTrees();
        Due.fill(x, 0, -1);
        is("the greatest, all the least", x.of(0, 8), 0);
        Due.fill(x, 0, 1);
        is("the least, all the greatest", x.of(0, 9), 2 * MILLION);
    }

    // "10 whether it is its own turned one by entries, whatever the blocks (1 or 0)"
    private static void ofItsTurned() {
        String[] texts = {"0", "d1", "f1", "(0d1d1f1)", "(0d1f1(0000))", "(0d1(d1d1f1f1)d2)", "(00(0000)0)",
            "(0d0(0000)0)", "u1,2v1,2", "u1,2v2,4", "f1,2", "(0u1,2v3u3v1,2(0000))", "u1,2v1", "f1,2,3",
            "(0d1d2(0000))", "(0d1d-1(0000))", "(0u1,2v3u1,2v3(0000))"};
        for (int k = 0; k < texts.length; k++) {
            is("turned " + texts[k], Due.told(texts[k]).of(0, 10), k < 12 ? 1 : 0);
        }
        for (int i = 0; i < 16; i++) {
            for (int j = 0; j < 16; j++) {
                BlockTrees x = Due.told("d3");
                x.entry(0, i, j, 4);
                is("one entry " + i + ", " + j, x.of(0, 10), i == j ? 1 : 0);
                x.entry(0, j, i, 4);
                is("and the one across", x.of(0, 10), 1);
            }
        }
    }

    // ---- promise 12

    // "a: -9999 to 9999"; "b: -999 to 999"; "-1000000000000 if there is no such matrix or row, or [..] out of range"
    private static void productWithin() {
        BlockTrees x = Due.told("u1,2v1,0");
        for (int a : new int[] {-9999, -9998, 0, 9998, 9999}) {
            is("a " + a, x.product(0, 0, a, 0), a);
        }
        for (int a : new int[] {-10000, 10000, MIN, MAX}) {
            is("a " + a, x.product(0, 0, a, 0), NO_PRODUCT);
        }
        x = Due.told("u1,2v0,1,0");
        for (int b : new int[] {-999, -998, 0, 998, 999}) {
            is("b " + b, x.product(0, 0, 0, b), b);
        }
        for (int b : new int[] {-1000, 1000, MIN, MAX}) {
            is("b " + b, x.product(0, 0, 0, b), NO_PRODUCT);
        }
        for (int row : new int[] {-1, 16, MIN, MAX}) {
            is("row " + row, x.product(0, row, 0, 0), NO_PRODUCT);
        }
        for (int m : NO_MATRIX) {
            is("matrix " + m, x.product(m, 0, 0, 0), NO_PRODUCT);
        }
        is("nothing else is told so", x.product(0, 15, 0, 0), 0);
        is("both out of range", x.product(0, 0, 10000, 1000), NO_PRODUCT);
        is("all out of range", x.product(4, 16, 10000, 1000), NO_PRODUCT);
    }

    // "the sum of entry(row, j) * (a + b * j), j being the columns from 0 on"
    private static void productSums() {
        BlockTrees x = new BlockTrees();
        for (int j = 0; j < 16; j++) {
            x.entry(1, j, j, 3);
            is("row " + j, x.product(1, j, 100, 10), 3 * (100 + 10 * j));
            is("row " + j + ", a alone", x.product(1, j, 1, 0), 3);
            is("row " + j + ", b alone", x.product(1, j, 0, -1), -3 * j);
        }
        is("an empty matrix", x.product(0, 0, 9999, 999), 0);
        Due.fill(x, 0, 1);
        long most = 1000000L * (16 * 9999 + 999 * 120);
        for (int row = 0; row < 16; row += 15) {
            is("the most", x.product(0, row, 9999, 999), most);
            is("the least", x.product(0, row, -9999, -999), -most);
            is("nothing by nothing", x.product(0, row, 0, 0), 0);
            is("one of both below 0", x.product(0, row, -9999, 999), 1000000L * (-16 * 9999 + 999 * 120));
        }
        Due.fill(x, 0, -1);
        is("the least", x.product(0, 7, 9999, 999), -most);
        is("the most", x.product(0, 7, -9999, -999), most);
    }

    // ---- promises 13 and 14

    // "the bits, as Double.doubleToLongBits tells them, of their sum, as a double, divided by 256"
    private static void meanBits() {
        BlockTrees x = new BlockTrees();
        is("nothing", x.mean(0), Double.doubleToLongBits(0.0));
        for (int bit = 0; bit < 20; bit++) {
            for (int value = (1 << bit) - 1; value <= (1 << bit) + 1; value++) {
                x.entry(0, 9, 9, value);
                is("of " + value, x.mean(0), Double.doubleToLongBits(value / 256.0));
                x.entry(0, 9, 9, -value);
                is("of " + -value, x.mean(0), Double.doubleToLongBits(value == 0 ? 0.0 : -value / 256.0));
            }
        }
        x.entry(0, 9, 9, 5);
        x.entry(0, 15, 15, -5);
        is("entries that are 0 together", x.mean(0), 0L);
        x.entry(0, 0, 0, 1);
        is("the first and the last one count", x.mean(0), Double.doubleToLongBits(1 / 256.0));
        Due.fill(x, 0, 1);
        is("the greatest", x.mean(0), Double.doubleToLongBits(1000000.0));
        x.entry(0, 7, 7, 999999);
        is("just below it", x.mean(0), Double.doubleToLongBits(255999999.0 / 256));
        Due.fill(x, 0, -1);
        is("the least", x.mean(0), Double.doubleToLongBits(-1000000.0));
        for (int m : NO_MATRIX) {
            is("no matrix " + m, x.mean(m), Double.doubleToLongBits(0.0));
        }
    }

    // "the bits, as Float.floatToIntBits tells them, of its room, as a float, divided by 256"
    private static void shareBits() {
        BlockTrees x = new BlockTrees();
        is("nothing", x.share(0), Float.floatToIntBits(0.0f));
        for (int block = 0; block < 64; block++) {
            x.entry(0, block / 8 * 2, block % 8 * 2, 1);
            int room = x.of(0, 0);
            is("of " + room, x.share(0), Float.floatToIntBits(room / 256f));
        }
        is("the most", x.share(0), Float.floatToIntBits(277f / 256));
        for (int block = 0; block < 64; block++) {
            x.clear(0, block / 8 * 2, block % 8 * 2);
            int room = x.of(0, 0);
            is("of " + room, x.share(0), Float.floatToIntBits(room / 256f));
        }
        is("just one", Due.told("(0000)").share(0), Float.floatToIntBits(1f / 256));
        is("just 256", Due.told("f0").share(0), Float.floatToIntBits(1f));
        is("one more", Due.told("(f0f0f0f0)").share(0), Float.floatToIntBits(257f / 256));
        for (int m : NO_MATRIX) {
            is("no matrix " + m, x.share(m), BlockTrees.NO_SUCH);
        }
    }

    // ---- promise 15

    private static void countWhats() {
        BlockTrees x = Due.told("d1", "f1");
        Due.put(x, "abc");
        int[] wanted = {288, 4 | 8, 2, 3, 2};
        for (int what = 0; what < wanted.length; what++) {
            is("what " + what, x.count(what), wanted[what]);
        }
        for (int what : new int[] {-1, 5, 6, MIN, MAX}) {
            is("what " + what, x.count(what), BlockTrees.BAD_VALUE);
        }
    }

    // "0 the room of all matrices, 1 matrices that are an empty block, as a set"
    private static void countRoomAndEmptyOnes() {
        for (int set = 0; set < 16; set++) {
            BlockTrees x = new BlockTrees();
            int room = 0;
            for (int m = 0; m < 4; m++) {
                if ((set >> m & 1) == 0) {
                    Due.tell(x, m, m % 2 == 0 ? "d1" : "f1");
                    room += m % 2 == 0 ? 32 : 256;
                }
            }
            is("the set " + set, x.count(1), set);
            is("the room of " + set, x.count(0), room);
        }
        for (String none : new String[] {"(0000)", "d0", "f0", "((0000)000)"}) {
            BlockTrees x = Due.told(none);
            is("not an empty block " + none, x.count(1), 14);
            x.shrink(0);
            is("an empty block then " + none, x.count(1), 15);
        }
    }

    // "2 changes so far [..] 3 the length of the pad, 4 how many changes can be undone"
    private static void countPadAndHistory() {
        BlockTrees x = new BlockTrees();
        for (int k = 1; k <= 80; k++) {
            x.put('0');
            is("the pad", x.count(3), k);
        }
        x.put('0');
        is("the pad is full", x.count(3), 80);
        for (int k = 1; k <= 100; k++) {
            x.shrink(0);
            is("changes", x.count(2), k);
            is("can be undone", x.count(4), Math.min(k, 6));
        }
    }

    // ---- promise 16

    // "the greatest difference of two entries in the same place, without sign"
    private static void farDifferences() {
        String[][] texts = {{"0", "0"}, {"d1", "f1"}, {"d1", "(d1d1d1d1)"}, {"f0", "(0000)"}, {"d1", "d-1"},
            {"0", "(000d3)"}, {"(d1d0d0d0)", "(d0d1d0d0)"}, {"f1,0", "f0,-1"}, {"d999", "d-999"}};
        int[] wanted = {0, 0, 0, 0, 2, 3, 1, 1, 1998};
        for (int k = 0; k < texts.length; k++) {
            BlockTrees x = Due.told(texts[k]);
            is("far " + k, x.far(0, 1), wanted[k]);
            is("the other way round " + k, x.far(1, 0), wanted[k]);
            is("from itself " + k, x.far(1, 1), 0);
        }
        for (int corner = 0; corner < 4; corner++) {
            BlockTrees x = new BlockTrees();
            x.entry(2, corner / 2 * 15, corner % 2 * 15, MILLION);
            x.entry(3, 7, 8, -9);
            is("in one corner", x.far(2, 3), MILLION);
            x.entry(3, corner / 2 * 15, corner % 2 * 15, -MILLION);
            is("the farthest", x.far(2, 3), 2 * MILLION);
            is("the farthest", x.far(3, 2), 2 * MILLION);
        }
        for (int m : NO_MATRIX) {
            BlockTrees x = new BlockTrees();
            is("no one " + m, x.far(m, 3), BlockTrees.NO_SUCH);
            is("no other " + m, x.far(3, m), BlockTrees.NO_SUCH);
            is("neither " + m, x.far(m, m), BlockTrees.NO_SUCH);
        }
    }

    // ---- promise 17

    // "the room that a matrix would take if it was made smaller"; "nothing changes"
    private static void wouldTakeChangesNothing() {
        String[] texts = {"0", "d0", "f0", "f1", "f1,2", "(0000)", "(d1d1d1d1)", "(000(00d1d2))", "(f1f1,2f0d0)"};
        int[] wanted = {0, 0, 0, 32, 256, 0, 32, 17, 1 + 16 + 64};
        for (int k = 0; k < texts.length; k++) {
            BlockTrees x = Due.told("d5", texts[k]);
            BlockTrees before = Due.told("d5", texts[k]);
            is("would take " + texts[k], x.wouldTake(1), wanted[k]);
            is("once more " + texts[k], x.wouldTake(1), wanted[k]);
            for (int what = 0; what <= 10; what++) {
                is("it stays " + texts[k], x.of(1, what), before.of(1, what));
            }
            for (int what = 0; what < 5; what++) {
                is("nothing changes " + texts[k], x.count(what), before.count(what));
            }
            is("another one " + texts[k], x.wouldTake(0), 32);
        }
        for (int m : NO_MATRIX) {
            is("no matrix " + m, new BlockTrees().wouldTake(m), BlockTrees.NO_SUCH);
        }
    }

    // ---- promise 18

    // "row: its first row, a multiple of its size"; "size: 2, 4, 8 or 16"; "or the square goes beyond the matrix"
    private static void isOneSquares() {
        BlockTrees x = new BlockTrees();
        for (int size = -17; size <= 33; size++) {
            boolean right = size == 2 || size == 4 || size == 8 || size == 16;
            is("size " + size, x.isOne(0, 0, 0, size), right ? 2 : BlockTrees.BAD_VALUE);
        }
        for (int size : new int[] {MIN, MAX, MIN + 2, 1 << 30, 0x10002}) {
            is("size " + size, x.isOne(0, 0, 0, size), BlockTrees.BAD_VALUE);
        }
        for (int size = 2; size <= 16; size *= 2) {
            BlockTrees y = Due.told("d1");
            for (int edge = -18; edge <= 34; edge++) {
                boolean right = edge >= 0 && edge < 16 && edge % size == 0;
                is("row " + edge + ", size " + size, y.isOne(0, edge, 0, size), right ? 1 : BlockTrees.BAD_VALUE);
                is("column " + edge + ", size " + size, y.isOne(0, 0, edge, size), right ? 1 : BlockTrees.BAD_VALUE);
            }
            for (int edge : new int[] {MIN, MAX, MAX - size + 1, MAX - 15, MIN + 16}) {
                is("row " + edge + ", size " + size, y.isOne(0, edge, 0, size), BlockTrees.BAD_VALUE);
                is("column " + edge + ", size " + size, y.isOne(0, 0, edge, size), BlockTrees.BAD_VALUE);
            }
        }
        for (int m : NO_MATRIX) {
            is("no matrix " + m, x.isOne(m, 0, 0, 2), BlockTrees.NO_SUCH);
        }
    }

    // "1 if they can, and are not all 0; 0 if they cannot; 2 if they are all 0": whatever the blocks are.
    private static void isOneAnswers() {
        for (String zeros : new String[] {"0", "d0", "f0", "(0d0f0(0000))"}) {
            is("all 0 " + zeros, Due.told(zeros).isOne(0, 0, 0, 16), 2);
        }
        for (String one : new String[] {"d1", "f1", "(d1f1d1f1)", "(000(000(000d1)))", "u0,1,0v0,0,-3", "(00d1d2)"}) {
            is("one product " + one, Due.told(one).isOne(0, 0, 0, 16), 1);
        }
        for (String none : new String[] {"f1,2", "(d1d1d1d2)", "(0d1d1f0)", "(d1d1d1f1,1,1,2)"}) {
            is("no product " + none, Due.told(none).isOne(0, 0, 0, 16), 0);
        }
        BlockTrees x = Due.told("(0d1d1u1,2v3)");
        is("a square of blocks", x.isOne(0, 0, 0, 16), 0);
        is("its quarters", x.isOne(0, 0, 0, 8), 2);
        is("its quarters", x.isOne(0, 0, 8, 8), 1);
        is("its quarters", x.isOne(0, 8, 8, 8), 1);
        is("deeper than the block", x.isOne(0, 12, 8, 2), 1);
        is("deeper than the block", x.isOne(0, 4, 4, 4), 2);
    }

    // ---- promise 19

    // "the times, -99 to 99, not 0"
    private static void bestTimesWithin() {
        for (int times = -101; times <= 101; times++) {
            BlockTrees x = new BlockTrees();
            x.entry(0, 7, 7, -5 * times);
            x.entry(1, 7, 7, 5);
            boolean within = times != 0 && times >= -99 && times <= 99;
            is("times " + times, x.bestTimes(0, 1, 0), within ? times + 100 : 1);
            is("entries by " + times, x.bestTimes(0, 1, 1), within ? 256 : 255);
            is("nothing changes", x.count(4), 2);
        }
        BlockTrees x = Due.told("d1", "d1");
        for (int what : new int[] {-1, 2, MIN, MAX}) {
            is("what " + what, x.bestTimes(0, 1, what), BlockTrees.BAD_VALUE);
        }
        for (int m = 0; m < 4; m++) {
            is("both the same", x.bestTimes(m, m, 0), BlockTrees.BAD_VALUE);
            is("both the same", x.bestTimes(m, m, 1), BlockTrees.BAD_VALUE);
        }
        for (int m : NO_MATRIX) {
            is("no matrix " + m, x.bestTimes(m, 0, 0), BlockTrees.NO_SUCH);
            is("no other " + m, x.bestTimes(0, m, 1), BlockTrees.NO_SUCH);
            is("neither " + m, x.bestTimes(m, m, 0), BlockTrees.NO_SUCH);
        }
    }

    // "of several the lowest one"
    private static void bestTimesLowest() {
        String[][] texts = {{"0", "0"}, {"d1", "0"}, {"0", "d1"}, {"(d3d-3d5d5)", "(d1d1d1d5)"}, {"(0d3d-3d5)",
            "(d1d1d1d0)"}, {"(d3d2d1d0)", "(d1d1d1d1)"}, {"(d-3d-2d-1d0)", "(d1d1d1d1)"}, {"f-99,99", "f1"},
            {"(d99d-99d99d-99)", "d1"}};
        int[] times = {-99, -99, -99, -5, -3, -3, 1, -99, -99};
        int[] entries = {256, 0, 0, 64, 64, 64, 64, 255, 128};
        for (int k = 0; k < texts.length; k++) {
            BlockTrees x = Due.told(texts[k]);
            is("times of " + k, x.bestTimes(0, 1, 0), times[k] + 100);
            is("entries of " + k, x.bestTimes(0, 1, 1), entries[k]);
        }
    }

    // "by which the sum of add() would have the most entries that are 0"
    private static void bestTimesEntries() {
        String[][] texts = {{"d6", "d-2"}, {"d6", "d4"}, {"(d6d6d4d4)", "(d2d2d2d1)"}, {"(0d1d1d1)", "(0d1d2d3)"},
            {"f0,1", "d-1"}, {"d999", "d111"}, {"u999v999", "u999v99"}};
        for (int k = 0; k < texts.length; k++) {
            BlockTrees x = Due.told(texts[k]);
            int times = x.bestTimes(0, 1, 0) - 100;
            int entries = x.bestTimes(0, 1, 1);
            for (int other = -99; other <= 99; other++) {
                if (other != 0) {
                    BlockTrees y = Due.told(texts[k]);
                    y.add(0, 1, other);
                    int zeros = 256 - y.of(0, 6);
                    due.holds("not more by " + other + " of " + k, zeros < entries || zeros == entries && other >= times);
                    due.holds("as many by the best " + k, other != times || zeros == entries);
                }
            }
        }
        BlockTrees x = new BlockTrees();
        Due.fill(x, 0, 1);
        Due.fill(x, 1, -1);
        is("the greatest entries", x.bestTimes(0, 1, 0), 101);
        is("the greatest entries", x.bestTimes(0, 1, 1), 256);
        is("nothing is different", x.of(0, 9), 2 * MILLION);
    }

    // ---- promise 20

    // "a code is not 33 to 126": in each of the 8 places.
    private static void putCodes() {
        for (int place = 0; place < 8; place++) {
            long lower = 0;
            for (int k = 0; k < place; k++) {
                lower |= 48L << 8 * k;
            }
            BlockTrees x = new BlockTrees();
            for (long code = 1; code < 256; code++) {
                boolean right = code >= 33 && code <= 126;
                is("code " + code + " in " + place, x.put(lower | code << 8 * place),
                        right ? place + 1 : BlockTrees.BAD_VALUE);
                if (right) {
                    x.wipe();
                }
            }
        }
    }

    // "8 bits that are 0 mean that there are no more characters, and everything above them has to be 0, too"
    private static void putHoles() {
        BlockTrees x = new BlockTrees();
        is("no character", x.put(0), BlockTrees.BAD_VALUE);
        for (int bit = 0; bit < 64; bit++) {
            // 64 alone is the code of a character, 32 is just too small for one.
            is("a single bit " + bit, x.put(1L << bit), bit == 6 ? 1 : BlockTrees.BAD_VALUE);
            x.wipe();
        }
        for (int bit = 16; bit < 64; bit++) {
            is("a bit above the end " + bit, x.put('0' | 1L << bit), BlockTrees.BAD_VALUE);
        }
        for (int hole = 0; hole < 7; hole++) {
            is("a hole in " + hole, x.put(Due.number("00000000") & ~(255L << 8 * hole)), BlockTrees.BAD_VALUE);
        }
        is("the end in the last place", x.put(Due.number("00000000") & ~(255L << 56)), 7);
        is("all bits", x.put(-1L), BlockTrees.BAD_VALUE);
        is("the greatest long", x.put(Long.MAX_VALUE), BlockTrees.BAD_VALUE);
        is("the least long", x.put(Long.MIN_VALUE), BlockTrees.BAD_VALUE);
        is("nothing else was put", x.count(3), 7);
    }

    // "1 to 8 characters"; "Returns the length of the pad then"; "TOO_MANY if the pad would be longer than 80"
    private static void putLengths() {
        String text = "(u1v2d3)";
        for (int length = 1; length <= 8; length++) {
            BlockTrees x = new BlockTrees();
            is("characters " + length, x.put(Due.number(text.substring(0, length))), length);
            for (int before = length; before + length <= 80; before += length) {
                is("behind " + before, x.put(Due.number(text.substring(0, length))), before + length);
            }
            int stands = 80 / length * length;
            is("one time more", x.put(Due.number(text.substring(0, length))), BlockTrees.TOO_MANY);
            is("not a part of them", x.count(3), stands);
            if (stands < 80) {
                is("what there is place for", x.put(Due.number(text.substring(0, 80 - stands))), 80);
            }
            is("full", x.put('0'), BlockTrees.TOO_MANY);
        }
        BlockTrees x = new BlockTrees();
        is("8 in their order", x.put(Due.number("(d1d2d3d")), 8);
        is("8 in their order", x.put(Due.number("4)")), 10);
        is("8 in their order", x.tell(0), 65);
        is("8 in their order", x.at(0, 0, 0), MILLION + 1);
        is("8 in their order", x.at(0, 15, 15), MILLION + 4);
        is("put is no change", x.count(2), 1);
    }

    // ---- promises 21 and 22

    private static void wipeLengths() {
        for (int length = 0; length <= 80; length++) {
            BlockTrees x = new BlockTrees();
            Due.put(x, "0".repeat(length));
            is("wipe of " + length, x.wipe(), length);
            is("nothing is left", x.count(3), 0);
            is("nothing is left", x.wipe(), 0);
            is("the fault of nothing", x.fault(), 0);
            Due.put(x, "d7");
            is("from the begin on", x.tell(0), 32);
            is("one change", x.count(2), 1);
        }
    }

    // "Returns the fault of the pad, NONE if there is none."
    private static void faultChangesNothing() {
        for (String text : new String[] {"d7", "d7,", "(00", "((((", "f1,2,3"}) {
            BlockTrees x = Due.told("d5");
            int fault = Due.fault(x, text);
            is("the same again " + text, x.fault(), fault);
            is("the pad stays " + text, x.count(3), text.length());
            is("the matrices stay " + text, x.count(0), 32);
            is("the entries stay " + text, x.at(0, 0, 0), MILLION + 5);
            is("no change " + text, x.count(2), 1);
            is("as tell finds it " + text, x.tell(1) == BlockTrees.BAD_TEXT ? 1 : 0, fault == BlockTrees.NONE ? 0 : 1);
        }
        is("no text", new BlockTrees().fault(), 0);
        is("a text", Due.fault(new BlockTrees(), "0"), BlockTrees.NONE);
    }
}
