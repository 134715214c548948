/** The edges of the promises whose calls change something (2 to 8, and 23 to 25): a test for each sentence. */
public final class EdgeChangesTest {
    private static final int E = BlockTrees.EMPTY;
    private static final int F = BlockTrees.FULL;
    private static final int T = BlockTrees.THIN;
    private static final int MILLION = 1000000;
    private static final int[] NO_MATRIX = {-1, 4, Integer.MIN_VALUE, Integer.MAX_VALUE};

    private interface Change {
        int on(BlockTrees x);
    }

    private static final Due due = new Due();

    public static void main(String[] args) {
        tellWithinTheMatrices();
        tellEmptiesThePad();
        tellReturnsTheRoom();
        nothingIsLeftOfDeepBlocks();
        entryOfEachPlace();
        entryValues();
        entryCutsByTheSort();
        entryOfWhatIsCut();
        entryMakesFull();
        shrinkReturnsTheDifference();
        addTimes();
        addStaysWithinAMillion();
        addOfEmptyOnes();
        addOfOtherZeros();
        addOfEachSort();
        addBlockByBlock();
        addWithOneOfBothCut();
        addLeavesTheOther();
        deepBlocksThatBecomeOne();
        turnOfEachSort();
        turnOfDeepBlocks();
        turnReturnsTheTrace();
        copyBecomesTheSame();
        clearOfEachSize();
        clearOfEachCorner();
        undoOfEachChange();
        undoKeepsPadAndSlots();
        historyOf6();
        recordedAlsoIfNothingIsDifferent();
        saveHoldsAllButThePad();
        saveOverwrites();
        slotsOnTheirOwn();
        restoreIsAChange();
        restoreBringsTheChanges();
        due.finish();
    }

    private static void is(String call, long got, long want) {
        due.is(call, got, want);
    }

    private static void row(String what, BlockTrees x, int row, int column, int... wanted) {
        for (int j = 0; j < wanted.length; j++) {
            is(what + ", at " + row + ", " + (column + j), x.at(0, row, column + j) - MILLION, wanted[j]);
        }
    }

    private static void sort(String what, BlockTrees x, int row, int column, int sort, int size) {
        is(what + ", sort", x.block(0, row, column, 0), sort);
        is(what + ", size", x.block(0, row, column, 1), size);
    }

    // ---- promise 2

    // "NO_SUCH if there is no such matrix"
    private static void tellWithinTheMatrices() {
        for (int m = 0; m < 4; m++) {
            BlockTrees x = new BlockTrees();
            is("tell " + m, Due.tell(x, m, "d1"), 32);
            is("the others stay " + m, x.count(1), 15 - (1 << m));
        }
        for (int m : NO_MATRIX) {
            BlockTrees x = new BlockTrees();
            is("tell " + m, Due.tell(x, m, "d1"), BlockTrees.NO_SUCH);
            is("the pad stays " + m, x.count(3), 2);
            is("no change " + m, x.count(2), 0);
        }
    }

    // "the pad is emptied": it is not if there is an error.
    private static void tellEmptiesThePad() {
        BlockTrees x = new BlockTrees();
        Due.put(x, "d1");
        is("tell", x.tell(0), 32);
        is("emptied", x.count(3), 0);
        is("nothing to tell", x.tell(0), BlockTrees.BAD_TEXT);
        Due.put(x, "d1,");
        is("a fault", x.tell(0), BlockTrees.BAD_TEXT);
        is("not emptied", x.count(3), 3);
        is("no change", x.count(2), 1);
        x.wipe();
        Due.put(x, "(000");
        is("an early end", x.tell(0), BlockTrees.BAD_TEXT);
        Due.put(x, "f5)");
        is("it goes on", x.tell(0), 65);
        is("a change", x.count(2), 2);
        is("it can be undone", x.count(4), 2);
    }

    // "Returns its room"
    private static void tellReturnsTheRoom() {
        String[] texts = {"0", "(0000)", "d0", "f0", "(000f0)", "(000(000(000d0)))", "((0000)(0000)(0000)(0000))"};
        int[] rooms = {0, 1, 32, 256, 65, 7, 5};
        for (int k = 0; k < texts.length; k++) {
            BlockTrees x = Due.told("f1,2,3");
            is("room of " + texts[k], Due.tell(x, 0, texts[k]), rooms[k]);
            is("nothing is left of what there was " + texts[k], x.of(0, 6), 0);
        }
    }

    /** What becomes one block has no depth, however deep it was; and it is cut by its own sort again. */
    private static void nothingIsLeftOfDeepBlocks() {
        Change[] whole = {x -> Due.tell(x, 0, "0"), x -> Due.tell(x, 0, "d1"), x -> Due.tell(x, 0, "f1,2"),
            x -> Due.tell(x, 0, "(0d1f1,2(0000))"), x -> x.copy(0, 2), x -> x.copy(0, 3)};
        for (int k = 0; k < whole.length; k++) {
            BlockTrees x = new BlockTrees();
            BlockTrees fresh = new BlockTrees();
            Due.tell(x, 2, "(0(0d1f1,2(0000))d2(0000))");
            Due.tell(fresh, 2, "(0(0d1f1,2(0000))d2(0000))");
            for (int block = 0; block < 64; block++) {
                x.entry(0, block / 8 * 2, block % 8 * 2, block + 1);
            }
            is("as deep as it can be", x.of(0, 5), 21);
            is("the same room " + k, whole[k].on(x), whole[k].on(fresh));
            same("become " + k, x, fresh);
            x.entry(0, 9, 9, 77);
            fresh.entry(0, 9, 9, 77);
            same("cut again " + k, x, fresh);
        }
    }

    private static void same(String what, BlockTrees x, BlockTrees fresh) {
        for (int number = 0; number <= 10; number++) {
            is(what + ", of " + number, x.of(0, number), fresh.of(0, number));
        }
        for (int block = 0; block < 64; block++) {
            int i = block / 8 * 2;
            int j = block % 8 * 2 + 1;
            is(what + ", sort", x.block(0, i, j, 0), fresh.block(0, i, j, 0));
            is(what + ", size", x.block(0, i, j, 1), fresh.block(0, i, j, 1));
            is(what + ", entry", x.at(0, i, j), fresh.at(0, i, j));
        }
    }

    // ---- promise 3

    // "row: 0 to 15", "column: 0 to 15"
    private static void entryOfEachPlace() {
        BlockTrees x = new BlockTrees();
        for (int cell = 0; cell < 256; cell++) {
            is("entry " + cell, x.entry(0, cell / 16, cell % 16, cell), MILLION);
        }
        is("all of them", x.of(0, 6), 255);
        for (int cell = 0; cell < 255; cell++) {
            is("at " + cell, x.at(0, cell / 16, cell % 16), MILLION + cell);
        }
        int[][] none = {{-1, 0}, {16, 0}, {0, -1}, {0, 16}, {-1, 15}, {16, 15}, {15, 16}, {16, 16}, {-1, 16}};
        for (int[] place : none) {
            BlockTrees y = new BlockTrees();
            is("no place " + place[0] + ", " + place[1], y.entry(0, place[0], place[1], 1), BlockTrees.NO_SUCH);
            is("nothing is different " + place[0] + ", " + place[1], y.of(0, 0) + y.count(4), 0);
        }
    }

    // "value: -1000000 to 1000000"; "the previous entry and 1000000"
    private static void entryValues() {
        BlockTrees x = new BlockTrees();
        is("the greatest", x.entry(0, 8, 8, MILLION), MILLION);
        is("one more", x.entry(0, 8, 8, MILLION + 1), BlockTrees.BAD_VALUE);
        is("the least", x.entry(0, 8, 8, -MILLION), 2 * MILLION);
        is("one less", x.entry(0, 8, 8, -MILLION - 1), BlockTrees.BAD_VALUE);
        is("nothing", x.entry(0, 8, 8, 0), 0);
        is("the least int", x.entry(0, 8, 8, Integer.MIN_VALUE), BlockTrees.BAD_VALUE);
        is("the greatest int", x.entry(0, 8, 8, Integer.MAX_VALUE), BlockTrees.BAD_VALUE);
        is("the last one that was allowed", x.at(0, 8, 8), MILLION);
        is("changes", x.count(2), 3);
    }

    // "an EMPTY one to EMPTY ones, a FULL one to FULL ones, a THIN one to THIN ones, with the halves of u and v"
    private static void entryCutsByTheSort() {
        int[] sorts = {E, F, T};
        String[] texts = {"0", "f1,2,3,4,5,6,7,8,9,10,11,12,13,14,15,16,17", "u1,2,3,4,5,6,7,8,9v1,2,3,4,5,6,7,8,9"};
        for (int k = 0; k < 3; k++) {
            BlockTrees x = Due.told(texts[k]);
            BlockTrees before = Due.told(texts[k]);
            x.entry(0, 6, 9, 77);
            sort("the block itself", x, 6, 9, F, 2);
            sort("beside it", x, 6, 10, sorts[k], 2);
            sort("above it", x, 5, 9, sorts[k], 2);
            sort("the 4 beside it", x, 7, 12, sorts[k], 4);
            sort("the 4 above it", x, 3, 8, sorts[k], 4);
            sort("the 8 beside it", x, 0, 7, sorts[k], 8);
            sort("the 8 below it", x, 8, 8, sorts[k], 8);
            sort("the 8 across", x, 15, 0, sorts[k], 8);
            is("just three are cut", x.of(0, 5), 3);
            for (int cell = 0; cell < 256; cell++) {
                int i = cell / 16;
                int j = cell % 16;
                is("entry " + cell, x.at(0, i, j), cell == 6 * 16 + 9 ? MILLION + 77 : before.at(0, i, j));
            }
        }
    }

    // "the blocks that have it and are larger than 2 are cut, if they are not"
    private static void entryOfWhatIsCut() {
        BlockTrees x = Due.told("(000(000(000d5)))");
        is("previous", x.entry(0, 15, 14, -5), MILLION + 5);
        sort("the block of 2", x, 15, 15, F, 2);
        row("its other entries", x, 14, 14, 5, 5);
        row("its other entries", x, 15, 14, -5, 5);
        is("nothing else is cut", x.of(0, 5), 3);
        is("the room stays", x.of(0, 0), 7);
        x = Due.told("(d1d2(0000)f3)");
        x.entry(0, 15, 0, 9);
        sort("a block of 8 that was cut", x, 8, 0, E, 4);
        sort("others stay", x, 8, 8, F, 8);
        sort("others stay", x, 0, 0, T, 8);
        is("cut ones", x.of(0, 5), 3);
        x.entry(0, 14, 1, 9);
        is("the same ones", x.of(0, 5), 3);
    }

    // "the one of the size 2 becomes FULL": whatever it was, also if no entry is different.
    private static void entryMakesFull() {
        BlockTrees x = new BlockTrees();
        is("0 for a 0", x.entry(0, 0, 0, 0), MILLION);
        sort("EMPTY is FULL then", x, 0, 0, F, 2);
        is("its room", x.of(0, 0), 7);
        x = Due.told("d3");
        is("3 for a 3", x.entry(0, 15, 15, 3), MILLION + 3);
        sort("THIN is FULL then", x, 15, 15, F, 2);
        is("its room", x.of(0, 0), 3 + 3 * 16 + 3 * 8 + 4 * 4);
        x = Due.told("f3");
        is("3 for a 3", x.entry(0, 0, 15, 3), MILLION + 3);
        sort("FULL stays FULL", x, 0, 15, F, 2);
        is("its room", x.of(0, 0), 3 + 256);
    }

    // ---- promise 4

    // "Returns how much less room it takes"
    private static void shrinkReturnsTheDifference() {
        String[] texts = {"0", "(0000)", "f0", "d0", "d1", "f1", "f1,2", "(000(000(000f1)))", "(000f1,2)"};
        int[] less = {0, 1, 256, 32, 0, 224, 0, 0, 0};
        for (int k = 0; k < texts.length; k++) {
            BlockTrees x = Due.told(texts[k], "f1");
            int before = x.of(0, 0);
            is("shrink " + texts[k], x.shrink(0), less[k]);
            is("room then " + texts[k], x.of(0, 0), before - less[k]);
            is("the others stay " + texts[k], x.of(1, 0), 256);
            is("a change " + texts[k], x.count(2), 3);
        }
        for (int m = 0; m < 4; m++) {
            is("matrix " + m, Due.told("f1", "f1", "f1", "f1").shrink(m), 224);
        }
        for (int m : NO_MATRIX) {
            is("no matrix " + m, new BlockTrees().shrink(m), BlockTrees.NO_SUCH);
        }
    }

    // ---- promise 5

    // "times: -99 to 99, not 0"; "BAD_VALUE if times is out of range, or both are the same"
    private static void addTimes() {
        for (int times : new int[] {-99, -98, -2, -1, 1, 2, 98, 99}) {
            BlockTrees x = Due.told("d1", "d2");
            is("times " + times, x.add(0, 1, times), 256);
            row("times " + times, x, 15, 15, 1 + 2 * times);
        }
        for (int times : new int[] {-100, 0, 100, Integer.MIN_VALUE, Integer.MAX_VALUE, -101, 101}) {
            BlockTrees x = Due.told("d1", "d2");
            is("times " + times, x.add(0, 1, times), BlockTrees.BAD_VALUE);
            is("nothing is different " + times, x.of(0, 0), 32);
        }
        for (int m = 0; m < 4; m++) {
            BlockTrees x = Due.told("d1", "d1", "d1", "d1");
            is("both the same " + m, x.add(m, m, 1), BlockTrees.BAD_VALUE);
            is("the next one " + m, x.add(m, (m + 1) % 4, 1), 256);
            is("the sum " + m, x.at(m, 7, 7), MILLION + 2);
        }
        for (int m : NO_MATRIX) {
            BlockTrees x = Due.told("d1", "d2");
            is("no matrix " + m, x.add(m, 0, 1), BlockTrees.NO_SUCH);
            is("no other " + m, x.add(0, m, 1), BlockTrees.NO_SUCH);
            is("neither of both " + m, x.add(m, m, 1), BlockTrees.NO_SUCH);
            is("no change " + m, x.count(2), 2);
        }
    }

    private static void sum(int mine, int theirs, int times, int wanted) {
        BlockTrees x = new BlockTrees();
        x.entry(0, 3, 3, mine);
        x.entry(1, 3, 3, theirs);
        is("room of the sum", x.add(0, 1, times), 7);
        is(mine + " and " + times + " times " + theirs, x.at(0, 3, 3) - MILLION, wanted);
        is("an entry beside it", x.at(0, 3, 2), MILLION);
    }

    // "with the sums, each put to within -1000000 to 1000000"
    private static void addStaysWithinAMillion() {
        sum(999999, 1, 1, MILLION);
        sum(MILLION, 1, 1, MILLION);
        sum(999998, 1, 1, 999999);
        sum(-999999, 1, -1, -MILLION);
        sum(-MILLION, 1, -1, -MILLION);
        sum(-999998, 1, -1, -999999);
        sum(1, 10101, 99, MILLION);
        sum(2, 10101, 99, MILLION);
        sum(0, 10101, 99, 999999);
        sum(-1, 10101, -99, -MILLION);
        sum(MILLION, MILLION, 99, MILLION);
        sum(MILLION, MILLION, -99, -MILLION);
        sum(-MILLION, MILLION, -99, -MILLION);
        sum(-MILLION, MILLION, 99, MILLION);
        sum(MILLION, MILLION, -1, 0);
        sum(-MILLION, MILLION, 1, 0);
        sum(MILLION, MILLION, -2, -MILLION);
        sum(MILLION, -MILLION, 2, -MILLION);
        BlockTrees x = new BlockTrees();
        Due.fill(x, 0, 1);
        is("each of them", x.of(0, 9), 2 * MILLION);
        Due.fill(x, 0, -1);
        is("each of them", x.of(0, 8), 0);
    }

    // "if the other one's block is EMPTY, the block stays"
    private static void addOfEmptyOnes() {
        String[] texts = {"0", "d0", "d1", "f0", "f1,2", "(0000)", "(d0f0d1(0000))", "(000(000(000d1)))"};
        for (String text : texts) {
            BlockTrees x = Due.told(text);
            BlockTrees before = Due.told(text);
            is("the whole " + text, x.add(0, 3, 99), before.of(0, 0));
            for (int what = 0; what <= 10; what++) {
                is("it stays " + text + ", " + what, x.of(0, what), before.of(0, what));
            }
            is("a change all the same " + text, x.count(2), 2);
        }
        for (String part : new String[] {"d0", "d1", "f0", "f1", "(0000)", "(f1d1d0d1)"}) {
            BlockTrees x = Due.told("(" + part + "d1d1d1)", "(0d1d1d1)");
            int room = x.of(0, 0) - 3 * 16;
            is("a block of it " + part, x.add(0, 1, 1), room + 3 * 64);
        }
        BlockTrees x = Due.told("(000(d1d2d3d4))", "(d1d1d1(0d1d1d1))");
        is("a block of a block", x.add(0, 1, 1), 1 + 3 * 64 + 1 + 8 + 3 * 16);
        sort("it stays", x, 8, 8, T, 4);
        sort("EMPTY becomes FULL", x, 0, 0, F, 8);
    }

    // A block of the other one that is not EMPTY, though its entries are all 0: "otherwise the block becomes FULL".
    private static void addOfOtherZeros() {
        for (String zeros : new String[] {"d0", "f0", "(0000)", "(000(000(0000)))"}) {
            for (String mine : new String[] {"0", "d0", "d1", "f1,2"}) {
                BlockTrees x = Due.told(mine, zeros);
                int first = x.at(0, 0, 0);
                int last = x.at(0, 15, 15);
                is(mine + " and " + zeros, x.add(0, 1, 1), 256);
                sort(mine + " and " + zeros, x, 0, 0, F, 16);
                is("the entries stay " + mine + " and " + zeros, x.at(0, 0, 0), first);
                is("the entries stay " + mine + " and " + zeros, x.at(0, 15, 15), last);
            }
        }
        is("both CUT of EMPTY ones", Due.told("(0000)", "(0000)").add(0, 1, 1), 1);
        is("CUT and THIN zeros", Due.told("(0000)", "d0").add(0, 1, 1), 256);
        is("CUT and FULL zeros", Due.told("(0000)", "f0").add(0, 1, 1), 256);
        is("a block of zeros in it", Due.told("(0000)", "(00d0f0)").add(0, 1, 1), 1 + 2 * 64);
    }

    // "otherwise the block becomes FULL with the sums": sums are not made smaller by themselves.
    private static void addOfEachSort() {
        String[] texts = {"0", "d3", "f3", "(d3d3d3d3)"};
        for (String mine : texts) {
            for (String theirs : texts) {
                BlockTrees x = Due.told(mine, theirs);
                boolean stays = theirs.equals("0");
                boolean bothCut = mine.equals(texts[3]) && theirs.equals(texts[3]);
                int room = stays ? x.of(0, 0) : bothCut ? 257 : 256;
                is(mine + " less " + theirs, x.add(0, 1, -1), room);
                int wanted = (mine.equals("0") ? 0 : 3) - (stays ? 0 : 3);
                row(mine + " less " + theirs, x, 0, 0, wanted);
                row(mine + " less " + theirs, x, 15, 15, wanted);
            }
        }
    }

    // "if both are CUT, their four blocks are added": on each depth.
    private static void addBlockByBlock() {
        BlockTrees x = Due.told("(d1d2d3d4)", "(d4d3d2d1)");
        is("four blocks", x.add(0, 1, 10), 257);
        row("four blocks", x, 7, 7, 41, 32);
        row("four blocks", x, 8, 7, 23, 14);
        x = Due.told("(000(000(d1d2d3d4)))", "(000(000(d5d6d7d0)))");
        is("four blocks of 2", x.add(0, 1, -1), 3 + 16);
        row("four blocks of 2", x, 13, 13, -4, -4);
        row("four blocks of 2", x, 14, 13, -4, 4);
        sort("four blocks of 2", x, 15, 15, F, 2);
        sort("blocks that both have EMPTY", x, 0, 0, E, 8);
    }

    // "Where one of both is CUT, and the other one is not, its entries count."
    private static void addWithOneOfBothCut() {
        BlockTrees x = Due.told("(d1d2d3(d4d5d6d7))", "u1v1,2,3,4,5,6,7,8,9,10,11,12,13,14,15,16");
        is("CUT and THIN", x.add(0, 1, 1), 256);
        row("CUT and THIN", x, 0, 7, 1 + 8, 2 + 9);
        row("CUT and THIN", x, 15, 11, 6 + 12, 7 + 13);
        x = Due.told("f1,2,3", "(d1d2d3(d4d5d6d7))");
        is("FULL and CUT", x.add(0, 1, 2), 256);
        row("FULL and CUT", x, 0, 0, 3, 4, 5);
        row("FULL and CUT", x, 15, 11, 15, 17);
        x = Due.told("(000(0000))", "(000d5)");
        is("CUT and THIN in a block", x.add(0, 1, 1), 65);
        sort("CUT and THIN in a block", x, 15, 15, F, 8);
        x = Due.told("(000d5)", "(000(0000))");
        is("THIN and CUT in a block", x.add(0, 1, 1), 65);
        row("THIN and CUT in a block", x, 15, 14, 5, 5);
        x = Due.told("0", "(000(000(000d5)))");
        is("EMPTY and CUT", x.add(0, 1, 3), 256);
        row("EMPTY and CUT", x, 14, 13, 0, 15, 15);
    }

    private static void addLeavesTheOther() {
        BlockTrees x = Due.told("(000d5)", "(f1,2,3d4(0000)0)");
        BlockTrees before = Due.told("0", "(f1,2,3d4(0000)0)");
        x.add(0, 1, 7);
        for (int what = 0; what <= 10; what++) {
            is("the other one stays, " + what, x.of(1, what), before.of(1, what));
        }
        for (int cell = 0; cell < 256; cell++) {
            is("the other one stays", x.at(1, cell / 16, cell % 16), before.at(1, cell / 16, cell % 16));
        }
    }

    // ---- promise 6

    // "FULL blocks are turned so, THIN ones have u and v in one another's place"
    private static void turnOfEachSort() {
        String[] texts = {"0", "u1,2,3v4,5,6,7", "f1,2,3,4,5,6,7,8,9,10,11,12,13,14,15,16,17,18", "(f1,2d3u4,5v6(0000))"};
        for (String text : texts) {
            BlockTrees x = Due.told(text);
            BlockTrees before = Due.told(text);
            x.turn(0);
            for (int what = 0; what <= 10; what++) {
                is("of stays " + text + ", " + what, x.of(0, what), before.of(0, what));
            }
            for (int cell = 0; cell < 256; cell++) {
                is("turned " + text, x.at(0, cell % 16, cell / 16), before.at(0, cell / 16, cell % 16));
            }
            is("a change " + text, x.count(4), 2);
        }
    }

    // "of CUT ones each block is turned, and the blocks 1 and 2 take one another's place"
    private static void turnOfDeepBlocks() {
        String[] texts = {"(0d1f2(0000))", "(d1(0d1f2(0000))0d0)", "(0f1(000(0d1f2u1v1))d1)"};
        for (String text : texts) {
            BlockTrees x = Due.told(text);
            x.turn(0);
            BlockTrees before = Due.told(text);
            for (int block = 0; block < 64; block++) {
                int i = block / 8 * 2;
                int j = block % 8 * 2;
                is("sort " + text, x.block(0, j, i, 0), before.block(0, i, j, 0));
                is("size " + text, x.block(0, j, i, 1), before.block(0, i, j, 1));
            }
            x.turn(0);
            for (int block = 0; block < 64; block++) {
                int i = block / 8 * 2;
                int j = block % 8 * 2;
                is("turned again " + text, x.block(0, i, j, 0), before.block(0, i, j, 0));
            }
        }
    }

    // "Returns its trace and 100000000"
    private static void turnReturnsTheTrace() {
        BlockTrees x = new BlockTrees();
        is("nothing", x.turn(0), 100000000);
        Due.fill(x, 0, 1);
        is("the greatest", x.turn(0), 116000000);
        Due.fill(x, 1, -1);
        is("the least", x.turn(1), 84000000);
        x.entry(2, 0, 1, 5);
        is("not in the trace", x.turn(2), 100000000);
        x.entry(2, 15, 15, -5);
        is("the last one", x.turn(2), 99999995);
        x.entry(2, 0, 0, 6);
        is("the first one", x.turn(2), 100000001);
        for (int m : NO_MATRIX) {
            is("no matrix " + m, x.turn(m), BlockTrees.NO_SUCH);
        }
    }

    /** Blocks that were deeper do not show up in blocks that calls other than tell() and copy() make whole. */
    private static void deepBlocksThatBecomeOne() {
        BlockTrees x = Due.told("(000(000(000f5)))", "d1");
        is("add", x.add(0, 1, 1), 256);
        is("add, depth", x.of(0, 1), 0);
        is("add, CUT ones", x.of(0, 5), 0);
        x.entry(0, 0, 0, 1);
        sort("cut again", x, 15, 15, F, 8);
        x = Due.told("((d0d0d0d0)d0d0(d0d0d0(d0d0d0d0)))");
        is("shrink", x.shrink(0), 1 + 2 * 16 + 1 + 4 * 8 + 1 + 3 * 8 + 1 + 4 * 4);
        is("shrink, depth", x.of(0, 1), 0);
        x.entry(0, 0, 0, 1);
        sort("cut again", x, 15, 15, E, 8);
        x = Due.told("(d1d1d1(d1d1d1d1))");
        is("shrink to one product", x.shrink(0), 1 + 3 * 16 + 1 + 4 * 8 - 32);
        is("its depth", x.of(0, 1), 0);
        x.entry(0, 0, 0, 2);
        sort("cut again", x, 15, 15, T, 8);
        x = Due.told("((0000)d1d1(0000))");
        is("tell", Due.tell(x, 0, "d1"), 32);
        is("tell, depth", x.of(0, 1), 0);
        x = Due.told("f0", "(000(000d1))");
        x.add(1, 0, 1);
        x.clear(1, 0, 0);
        is("clear", x.of(1, 1), 0);
        x.entry(1, 0, 0, 2);
        is("cut again", x.block(1, 15, 15, 1), 8);
    }

    // ---- promise 7

    // "A matrix becomes another one."; "BAD_VALUE if both are the same"
    private static void copyBecomesTheSame() {
        String text = "(f1,2d3u4,5v6(0000))";
        for (int m = 0; m < 4; m++) {
            for (int from = 0; from < 4; from++) {
                BlockTrees x = new BlockTrees();
                Due.tell(x, from, text);
                is("copy " + m + " " + from, x.copy(m, from), m == from ? BlockTrees.BAD_VALUE : 1 + 64 + 16 + 16 + 1);
                is("both are the same then", x.far(m, from), 0);
                for (int what = 0; what <= 10; what++) {
                    is("of " + what, x.of(m, what), x.of(from, what));
                }
                x.clear(m, 0, 0);
                is("each of its own then", x.of(from, 3), m == from ? 0 : 1);
            }
        }
        BlockTrees x = Due.told("f1");
        is("an EMPTY one", x.copy(0, 3), 0);
        is("nothing is left", x.count(1), 15);
        is("the same once more", x.copy(0, 3), 0);
        is("changes", x.count(2), 3);
        for (int m : NO_MATRIX) {
            is("no matrix " + m, x.copy(m, 0), BlockTrees.NO_SUCH);
            is("no from " + m, x.copy(3, m), BlockTrees.NO_SUCH);
            is("neither " + m, x.copy(m, m), BlockTrees.NO_SUCH);
        }
        is("no change", x.count(2), 3);
    }

    // ---- promise 8

    // "the block that is not CUT and has this entry"; "Returns its size"
    private static void clearOfEachSize() {
        String[] texts = {"f1", "(000f1)", "(000(000f1))", "(000(000(000f1)))"};
        int[] sizes = {16, 8, 4, 2};
        for (int k = 0; k < 4; k++) {
            for (String block : new String[] {"f1", "d1", "f0", "0"}) {
                BlockTrees x = Due.told(texts[k].replace("f1", block));
                is("size in " + texts[k] + " " + block, x.clear(0, 15, 15), sizes[k]);
                sort("empty then", x, 15, 15, E, sizes[k]);
                is("no entry is left", x.of(0, 6), 0);
                is("what is CUT stays", x.of(0, 0), k);
                is("a change", x.count(2), 2);
            }
        }
        BlockTrees x = Due.told("(d1d2d3d4)");
        x.clear(0, 0, 0);
        x.clear(0, 0, 15);
        x.clear(0, 15, 0);
        is("one of four is left", x.of(0, 0), 17);
        is("the last one", x.clear(0, 15, 15), 8);
        is("still CUT", x.of(0, 0), 1);
        is("not an empty block", x.count(1), 14);
    }

    private static void clearOfEachCorner() {
        for (int corner = 0; corner < 4; corner++) {
            BlockTrees x = Due.told("(d1d1d1(d1d1d1d1))");
            int i = 4 + corner / 2 * 3;
            int j = 8 + corner % 2 * 7;
            is("of the size 8", x.clear(0, i, j), 8);
            row("just this block", x, i, 8, 0, 0, 0, 0, 0, 0, 0, 0);
            row("beside it", x, i, 7, 1);
            row("below it", x, 8, 8, 1);
            is("64 entries", x.of(0, 6), 192);
            i = 12 + corner / 2 * 3;
            j = 8 + corner % 2 * 3;
            is("of the size 4", x.clear(0, i, j), 4);
            row("just this block", x, i, 7, 1, 0, 0, 0, 0, 1);
            is("16 entries", x.of(0, 6), 176);
        }
        int[][] none = {{-1, 0}, {16, 0}, {0, -1}, {0, 16}};
        for (int[] place : none) {
            BlockTrees x = Due.told("d1");
            is("no place", x.clear(0, place[0], place[1]), BlockTrees.NO_SUCH);
            is("nothing is different", x.of(0, 0), 32);
        }
        for (int m : NO_MATRIX) {
            is("no matrix " + m, Due.told("d1").clear(m, 0, 0), BlockTrees.NO_SUCH);
        }
    }

    // ---- promise 23

    private static final Change[] CHANGES = {
        x -> {
            Due.put(x, "(d7f8d9d5)");
            return x.tell(0);
        },
        x -> x.entry(0, 9, 9, 5), x -> x.shrink(0), x -> x.add(0, 1, 3), x -> x.turn(0), x -> x.copy(0, 1),
        x -> x.clear(0, 9, 9), x -> x.restore(0)};

    private static BlockTrees rich() {
        BlockTrees x = Due.told("(f1,2d3(0000)d4)", "u1,2v3,4,0");
        x.save(0);
        x.entry(0, 0, 0, 7);
        return x;
    }

    // "everything except the pad, the slots and the history is as it was before it"
    private static void undoOfEachChange() {
        for (int k = 0; k < CHANGES.length; k++) {
            BlockTrees x = rich();
            BlockTrees before = rich();
            due.holds("no error of the change " + k, CHANGES[k].on(x) >= 0);
            is("one more to undo " + k, x.count(4), 4);
            is("changes then " + k, x.count(2), k == 7 ? 2 : 4);
            is("undo " + k, x.undo(), 3);
            is("changes " + k, x.count(2), 3);
            for (int m = 0; m < 2; m++) {
                for (int what = 0; what <= 10; what++) {
                    is("undone " + k + ", " + what, x.of(m, what), before.of(m, what));
                }
            }
            for (int cell = 0; cell < 256; cell++) {
                is("undone " + k, x.at(0, cell / 16, cell % 16), before.at(0, cell / 16, cell % 16));
            }
            for (int cell = 0; cell < 256; cell += 17) {
                is("undone " + k, x.block(0, cell / 16, cell % 16, 0), before.block(0, cell / 16, cell % 16, 0));
            }
            is("the one before it " + k, x.undo(), 2);
            is("changes " + k, x.count(2), 2);
        }
    }

    private static void undoKeepsPadAndSlots() {
        BlockTrees x = new BlockTrees();
        Due.tell(x, 0, "d1");
        Due.put(x, "(00");
        x.save(1);
        is("undo", x.undo(), 0);
        is("the pad stays", x.count(3), 3);
        is("the pad stays", x.fault(), 3);
        is("the slot stays", x.restore(1), 32);
        x.wipe();
        Due.tell(x, 0, "f1");
        is("undo of tell", x.undo(), 1);
        is("what was told does not come back on the pad", x.count(3), 0);
        is("undo of restore", x.undo(), 0);
        is("the slot keeps it", x.restore(1), 32);
    }

    // "A history of at most 6 states is kept: [..] when one more is recorded, the oldest one is dropped."
    private static void historyOf6() {
        for (int changes = 0; changes <= 20; changes++) {
            BlockTrees x = new BlockTrees();
            for (int k = 1; k <= changes; k++) {
                x.entry(0, 0, 0, k);
                is("can be undone", x.count(4), Math.min(k, 6));
            }
            int most = Math.min(changes, 6);
            for (int left = most - 1; left >= 0; left--) {
                is("undo of " + changes, x.undo(), left);
                is("the state before it", x.at(0, 0, 0), MILLION + changes - most + left);
                is("its changes", x.count(2), changes - most + left);
            }
            is("nothing is left of " + changes, x.undo(), BlockTrees.NOT_POSSIBLE);
            is("nothing is different", x.at(0, 0, 0), MILLION + changes - most);
            is("nothing is different", x.count(2), changes - most);
            x.entry(0, 0, 0, 99);
            is("one again", x.count(4), 1);
            is("one again", x.undo(), 0);
            is("the state before it", x.at(0, 0, 0), MILLION + changes - most);
        }
        BlockTrees x = new BlockTrees();
        for (int k = 1; k <= 6; k++) {
            x.entry(0, 0, 0, k);
        }
        x.undo();
        x.undo();
        for (int k = 11; k <= 13; k++) {
            x.entry(0, 0, 0, k);
        }
        int[] before = {12, 11, 4, 3, 2, 1};
        for (int k = 0; k < 6; k++) {
            is("behind an undo", x.undo(), 5 - k);
            is("behind an undo", x.at(0, 0, 0), MILLION + before[k]);
        }
        is("behind an undo", x.undo(), BlockTrees.NOT_POSSIBLE);
    }

    // "records the state before it (also if nothing is different then)"
    private static void recordedAlsoIfNothingIsDifferent() {
        Change[] idle = {x -> Due.tell(x, 0, "0"), x -> x.shrink(0), x -> x.add(0, 1, 1), x -> x.turn(0),
            x -> x.copy(0, 1), x -> x.clear(0, 0, 0), x -> x.restore(0)};
        for (int k = 0; k < idle.length; k++) {
            BlockTrees x = new BlockTrees();
            x.save(0);
            due.holds("no error " + k, idle[k].on(x) >= 0);
            is("recorded " + k, x.count(4), 1);
            is("counted " + k, x.count(2), k == 6 ? 0 : 1);
            is("undone " + k, x.undo(), 0);
            is("no change so far " + k, x.count(2), 0);
        }
        BlockTrees x = new BlockTrees();
        x.entry(0, 0, 0, 5);
        x.entry(0, 0, 0, 5);
        is("the same entry", x.count(4), 2);
        x.undo();
        is("the same entry", x.at(0, 0, 0), MILLION + 5);
    }

    // ---- promises 24 and 25

    // "Saves everything except the pad, the history and the slots"
    private static void saveHoldsAllButThePad() {
        BlockTrees x = Due.told("d1", "f1", "(0000)", "(000d1)");
        Due.put(x, "abc");
        is("room of all", x.save(0), 32 + 256 + 1 + 17);
        is("save is no change", x.count(2), 4);
        is("save is no change", x.count(4), 4);
        x.save(1);
        for (int m = 0; m < 4; m++) {
            x.clear(m, 15, 15);
        }
        x.wipe();
        Due.put(x, "defgh");
        is("restore", x.restore(0), 32 + 256 + 1 + 17);
        is("the pad is not saved", x.count(3), 5);
        is("the history is not saved", x.count(4), 6);
        is("changes are saved", x.count(2), 4);
        is("empty ones", x.count(1), 0);
        for (int m = 0; m < 4; m++) {
            is("filled entries", x.of(m, 6), m < 2 ? 256 : m == 2 ? 0 : 64);
        }
        is("undo of the restore", x.undo(), 5);
        is("undo of the restore", x.count(0), 2);
        is("undo of the restore", x.count(2), 8);
    }

    // "and overwrites what was saved there"; "Restores what was saved last in a slot, which keeps it."
    private static void saveOverwrites() {
        BlockTrees x = Due.told("d1");
        is("first", x.save(0), 32);
        Due.tell(x, 0, "f1");
        is("then", x.save(0), 256);
        x.clear(0, 0, 0);
        is("nothing there", x.count(0), 0);
        for (int k = 0; k < 9; k++) {
            is("saved last", x.restore(0), 256);
            is("its changes", x.count(2), 2);
            x.clear(0, 0, 0);
        }
        is("also what is nothing", x.save(0), 0);
        is("also what is nothing", x.restore(0), 0);
        is("a new object", new BlockTrees().save(0), 0);
        is("the most room", all().save(1), 4 * 277);
    }

    /** All matrices take the most room. */
    private static BlockTrees all() {
        BlockTrees x = new BlockTrees();
        for (int block = 0; block < 64; block++) {
            x.entry(0, block / 8 * 2, block % 8 * 2, 1);
        }
        x.copy(1, 0);
        x.copy(2, 0);
        x.copy(3, 0);
        return x;
    }

    // "slot: 0 or 1"; "NOT_POSSIBLE if nothing was saved in it"
    private static void slotsOnTheirOwn() {
        for (int slot = 0; slot < 2; slot++) {
            BlockTrees x = Due.told("d1");
            is("nothing in it", x.restore(slot), BlockTrees.NOT_POSSIBLE);
            is("save", x.save(slot), 32);
            is("nothing in the other one", x.restore(1 - slot), BlockTrees.NOT_POSSIBLE);
            is("no change", x.count(4), 1);
            x.clear(0, 0, 0);
            is("save", x.save(1 - slot), 0);
            is("this one", x.restore(slot), 32);
            is("the other one", x.restore(1 - slot), 0);
        }
        for (int slot : new int[] {-1, 2, Integer.MIN_VALUE, Integer.MAX_VALUE}) {
            BlockTrees x = Due.told("d1");
            is("no slot", x.save(slot), BlockTrees.BAD_VALUE);
            is("no slot", x.restore(slot), BlockTrees.BAD_VALUE);
            is("nothing in the slots", x.restore(0), BlockTrees.NOT_POSSIBLE);
            is("nothing in the slots", x.restore(1), BlockTrees.NOT_POSSIBLE);
        }
    }

    // "This is a change.": it is kept in the history, and drops the oldest state.
    private static void restoreIsAChange() {
        BlockTrees x = new BlockTrees();
        x.save(0);
        for (int k = 1; k <= 6; k++) {
            x.entry(0, 0, 0, k);
        }
        is("restore", x.restore(0), 0);
        is("still 6", x.count(4), 6);
        is("undo", x.undo(), 5);
        is("the state before it", x.at(0, 0, 0), MILLION + 6);
        for (int k = 5; k >= 1; k--) {
            is("undo", x.undo(), k - 1);
            is("the state before", x.at(0, 0, 0), MILLION + k);
        }
        is("the oldest one was dropped", x.undo(), BlockTrees.NOT_POSSIBLE);
    }

    // "undo() and restore() bring back how many they were; restore() is not counted upon that"
    private static void restoreBringsTheChanges() {
        BlockTrees x = new BlockTrees();
        x.turn(0);
        x.turn(0);
        x.save(0);
        x.turn(0);
        x.save(1);
        x.turn(0);
        is("so far", x.count(2), 4);
        x.restore(0);
        is("fewer", x.count(2), 2);
        x.restore(1);
        is("more", x.count(2), 3);
        x.restore(1);
        is("the same", x.count(2), 3);
        x.turn(0);
        is("on from there", x.count(2), 4);
        x.undo();
        is("as many as before", x.count(2), 3);
        x.undo();
        is("as many as before", x.count(2), 3);
        x.undo();
        is("as many as before", x.count(2), 2);
        x.undo();
        is("as many as before", x.count(2), 4);
    }
}
