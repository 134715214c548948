/** The edges that the words of the document's 'Terms' name: a test for each of their sentences. */
public final class EdgeTermsTest {
    private static final int E = BlockTrees.EMPTY;
    private static final int F = BlockTrees.FULL;
    private static final int T = BlockTrees.THIN;
    // The block 3 of the block 3 and so on: behind a number, a "0" would be one more digit.
    private static final String[] AT_DEPTH = {"%s", "(000%s)", "(000(000%s))", "(000(000(000%s)))"};
    private static final int[] SIZES = {16, 8, 4, 2};

    private static final Due due = new Due();

    public static void main(String[] args) {
        fiveHundredAndTwelveCalls();
        entriesAreWithinAMillion();
        fourMatricesOf16Rows();
        placesOfTheFourBlocks();
        blocksOfTheSize2AreNeverCut();
        rooms();
        roomsOfWhatIsCut();
        toldByOneProduct();
        productsGoWithoutARest();
        emptyOnesStay();
        thinOnes();
        fullOnes();
        cutOnesWithEmptyBlocks();
        cutOnesThatTakeLessThanTheProduct();
        cutOnesAreMeasuredAfterTheirBlocks();
        cutOnesOfNoProduct();
        padOf80();
        valuesThatGoOn();
        valuesBeyondThePlace();
        numbers();
        leadingZeros();
        bracketsInTheSize2();
        textsThatEndTooEarly();
        whatCanStand();
        due.finish();
    }

    private static void is(String call, long got, long want) {
        due.is(call, got, want);
    }

    /** The entries of a row from a column on. */
    private static void row(String what, BlockTrees x, int row, int column, int... wanted) {
        for (int j = 0; j < wanted.length; j++) {
            is(what + ", at " + row + ", " + (column + j), x.at(0, row, column + j) - 1000000, wanted[j]);
        }
    }

    /** The text of a matrix whose last block of this depth is told so; its first row and column are first(depth). */
    private static String at(int depth, String block) {
        return String.format(AT_DEPTH[depth], block);
    }

    private static int first(int depth) {
        return 16 - SIZES[depth];
    }

    // ---- conventions

    // "An object is used for at most 512 calls": the last ones are answered like the first ones.
    private static void fiveHundredAndTwelveCalls() {
        BlockTrees x = new BlockTrees();
        for (int call = 0; call < 511; call++) {
            is("change " + call, x.entry(call % 4, call % 16, call / 4 % 16, call), 1000000
                    + (call < 64 ? 0 : call - 64));
        }
        is("the call 512", x.count(2), 511);
        x = new BlockTrees();
        for (int call = 0; call < 510; call++) {
            x.shrink(call % 4);
        }
        is("the call 511", x.undo(), 5);
        is("the call 512", x.undo(), 4);
    }

    // "Entries are whole numbers, -1000000 to 1000000."
    private static void entriesAreWithinAMillion() {
        BlockTrees x = new BlockTrees();
        is("1000000 is one", x.entry(0, 0, 0, 1000000), 1000000);
        is("-1000000 is one", x.entry(0, 0, 0, -1000000), 2000000);
        is("1000001 is none", x.entry(0, 0, 0, 1000001), BlockTrees.BAD_VALUE);
        is("-1000001 is none", x.entry(0, 0, 0, -1000001), BlockTrees.BAD_VALUE);
        is("the last one that is allowed stands", x.at(0, 0, 0), 0);
        is("products stay within", Due.tell(x, 1, "u999v999"), 32);
        is("products stay within", x.at(1, 15, 15), 1998001);
    }

    // ---- matrices, blocks

    // "There are 4 matrices, 0 to 3, each with 16 rows and 16 columns."
    private static void fourMatricesOf16Rows() {
        BlockTrees x = new BlockTrees();
        for (int m = 0; m < 4; m++) {
            is("first entry of " + m, x.entry(m, 0, 0, m + 1), 1000000);
            is("last entry of " + m, x.entry(m, 15, 15, m + 5), 1000000);
        }
        for (int m = 0; m < 4; m++) {
            is("its own first entry " + m, x.at(m, 0, 0), 1000001 + m);
            is("its own last entry " + m, x.at(m, 15, 15), 1000005 + m);
        }
        is("no matrix 4", x.at(4, 0, 0), BlockTrees.NO_SUCH);
        is("no matrix -1", x.at(-1, 0, 0), BlockTrees.NO_SUCH);
        is("no row 16", x.at(3, 16, 15), BlockTrees.NO_SUCH);
        is("no row -1", x.at(3, -1, 15), BlockTrees.NO_SUCH);
        is("no column 16", x.at(3, 15, 16), BlockTrees.NO_SUCH);
        is("no column -1", x.at(3, 15, -1), BlockTrees.NO_SUCH);
    }

    // "upper left 0, upper right 1, lower left 2, lower right 3"
    private static void placesOfTheFourBlocks() {
        for (int depth = 0; depth < 3; depth++) {
            BlockTrees x = Due.told(at(depth, "(d1d2d3d4)"));
            int half = 16 - SIZES[depth] / 2;
            row("upper ones", x, first(depth), half - 1, 1, 2);
            row("upper ones, last row", x, half - 1, half - 1, 1, 2);
            row("lower ones", x, half, half - 1, 3, 4);
            row("lower ones, last row", x, 15, half - 1, 3, 4);
            row("the first corner", x, first(depth), first(depth), 1);
            row("the last corner", x, 15, 15, 4);
        }
    }

    // "Blocks of the size 2 are never cut."
    private static void blocksOfTheSize2AreNeverCut() {
        for (String block : new String[] {"0", "d1", "f1,2,3,4"}) {
            BlockTrees x = Due.told(at(3, block));
            x.entry(0, 15, 15, 9);
            x.entry(0, 14, 14, 8);
            is("the size stays 2 of " + block, x.block(0, 15, 15, 1), 2);
            is("the depth stays 3 of " + block, x.block(0, 15, 15, 5), 3);
            is("the deepest one " + block, x.of(0, 1), 3);
            is("three are cut " + block, x.of(0, 5), 3);
        }
        is("4 can be cut", Due.fault(new BlockTrees(), at(2, "(0000)")), BlockTrees.NONE);
        is("2 cannot be cut", Due.fault(new BlockTrees(), at(3, "(0000)")), 12);
    }

    // "The room of an empty block is 0, of a FULL one its size times its size, of a THIN one twice its size"
    private static void rooms() {
        int[] full = {256, 64, 16, 4};
        int[] thin = {32, 16, 8, 4};
        for (int depth = 0; depth < 4; depth++) {
            is("room of EMPTY", Due.told(at(depth, "0")).block(0, 15, 15, 4), 0);
            is("room of FULL", Due.told(at(depth, "f1,2")).block(0, 15, 15, 4), full[depth]);
            is("room of FULL zeros", Due.told(at(depth, "f0")).block(0, 15, 15, 4), full[depth]);
            is("room of THIN", Due.told(at(depth, "d1")).block(0, 15, 15, 4), thin[depth]);
            is("room of THIN zeros", Due.told(at(depth, "d0")).block(0, 15, 15, 4), thin[depth]);
        }
    }

    // "of one that is cut 1 and the room of its four blocks"
    private static void roomsOfWhatIsCut() {
        is("one", Due.told("(0000)").of(0, 0), 1);
        is("one in one", Due.told("((0000)000)").of(0, 0), 2);
        is("all of the second depth", Due.told("((0000)(0000)(0000)(0000))").of(0, 0), 5);
        is("of each sort", Due.told("(0f1d1(0000))").of(0, 0), 1 + 64 + 16 + 1);
        BlockTrees x = everyBlockCut();
        is("all that can be cut, FULL", x.of(0, 0), 21 + 64 * 4);
        for (int block = 0; block < 64; block++) {
            is("a block of 2", x.clear(0, block / 8 * 2, block % 8 * 2), 2);
        }
        is("all that can be cut, EMPTY", x.of(0, 0), 21);
        is("all that can be cut, EMPTY", x.of(0, 2), 64);
        is("all that can be cut", x.of(0, 5), 21);
    }

    /** The matrix 0 has 64 FULL blocks of the size 2. */
    private static BlockTrees everyBlockCut() {
        BlockTrees x = new BlockTrees();
        for (int block = 0; block < 64; block++) {
            x.entry(0, block / 8 * 2, block % 8 * 2, 0);
        }
        return x;
    }

    // ---- making smaller

    private static void one(String what, int want, int... four) {
        BlockTrees x = new BlockTrees();
        for (int k = 0; k < 4; k++) {
            x.entry(0, k / 2, k % 2, four[k]);
        }
        is(what, x.isOne(0, 0, 0, 2), want);
        x.shrink(0);
        is(what + ", made smaller", x.block(0, 0, 0, 0), want == 0 ? F : want == 1 ? T : E);
        for (int k = 0; k < 4; k++) {
            is(what + ", the entries stay", x.at(0, k / 2, k % 2), 1000000 + four[k]);
        }
    }

    // "each entry (i, j) times the entry (p, q) is the entry (i, q) times the entry (p, j)"
    private static void toldByOneProduct() {
        one("no entries", 2, 0, 0, 0, 0);
        one("the first entry alone", 1, 7, 0, 0, 0);
        one("the last entry alone", 1, 0, 0, 0, -7);
        one("the second entry alone", 1, 0, 7, 0, 0);
        one("the third entry alone", 1, 0, 0, 7, 0);
        one("the first row is all 0", 1, 0, 0, 2, 3);
        one("the first column is all 0", 1, 0, 2, 0, 3);
        one("the last row is all 0", 1, 2, 3, 0, 0);
        one("the last column is all 0", 1, 2, 0, 3, 0);
        one("the entry (p, q) is 0", 0, 0, 1, 1, 0);
        one("the entry (p, q) is 0, the last one not", 0, 0, 1, 1, 1);
        one("an entry that is 0 alone", 0, 1, 1, 1, 0);
        one("rows that are multiples", 1, 2, 3, 4, 6);
        one("rows of no whole multiples", 1, 4, 6, 6, 9);
        one("one beside it", 0, 4, 6, 6, 10);
        one("below 0 in the column q", 1, -4, 6, 6, -9);
        one("another sign", 0, -4, 6, 6, 9);
        one("the greatest entries", 1, 1000000, -1000000, 1000000, -1000000);
        one("the greatest entries, one beside them", 0, 1000000, 999999, 999999, 999998);
        // 65536 * 65536 and 4 * 65536 * 16384 are 0 in 32 bits.
        one("products beyond an int", 0, 65536, 0, 0, 65536);
        one("products beyond an int", 0, 65536, 65536, 16384, 0);
        for (int size : new int[] {4, 8, 16}) {
            BlockTrees x = Due.told("d1");
            is("all of " + size, x.isOne(0, 0, 0, size), 1);
            x.entry(0, size - 1, size - 1, 2);
            is("all but the last of " + size, x.isOne(0, 0, 0, size), 0);
            x.entry(0, size - 1, size - 1, 1);
            x.entry(0, 0, 0, 0);
            is("all but the first of " + size, x.isOne(0, 0, 0, size), 0);
        }
    }

    // "v is the row p divided by g [..] u(i) is the entry (i, q) divided by v(q) (all this goes without a rest)"
    private static void productsGoWithoutARest() {
        String[] products = {"u6,10,-15v10,-15,6,0", "u0,0,4,6v0,-6,9,3", "u-999,998v997,-2,0,1", "u0,2v0,0,-2",
            "u2,-4,6,-8,10,-12,14,-16v3,-6,9,-12,15", "u0,999v0,-999,999", "u-1v0,-1"};
        for (String product : products) {
            for (int depth = 0; depth < 4; depth++) {
                // A sum with zeros makes the block FULL, whose entries are told by the same product then.
                BlockTrees x = Due.told(at(depth, product), at(depth, "f0"));
                BlockTrees before = Due.told(at(depth, product));
                is("FULL of " + product, x.add(0, 1, 1) - x.of(1, 0), 0);
                is("is FULL " + product, x.block(0, 15, 15, 0), F);
                x.shrink(0);
                is("is THIN " + product, x.block(0, 15, 15, 0), before.of(0, 6) == 0 ? E : T);
                sameEntries("of " + product, x, before);
                x.turn(0);
                before.turn(0);
                x.entry(0, 15, 15, 1);
                before.entry(0, 15, 15, 1);
                sameEntries("the halves of " + product, x, before);
            }
        }
    }

    /** The matrices 0 of both: their entries near the diagonal, which are less than 200. */
    private static void sameEntries(String what, BlockTrees x, BlockTrees before) {
        for (int i = 0; i < 16; i++) {
            for (int j = Math.max(0, i - 4); j < Math.min(16, i + 5); j++) {
                is(what + ", entry " + i + ", " + j, x.at(0, i, j), before.at(0, i, j));
            }
        }
    }

    /** What a matrix takes then, and the sort and the size of its last block then. */
    private static void smaller(String text, int wantedRoom, int wantedSort, int wantedSize) {
        BlockTrees x = Due.told(text);
        int before = x.of(0, 0);
        is("would take " + text, x.wouldTake(0), wantedRoom);
        is("shrink " + text, x.shrink(0), before - wantedRoom);
        is("room of " + text, x.of(0, 0), wantedRoom);
        is("sort of " + text, x.block(0, 15, 15, 0), wantedSort);
        is("size of " + text, x.block(0, 15, 15, 1), wantedSize);
        is("once more " + text, x.shrink(0), 0);
    }

    // "an EMPTY one stays"
    private static void emptyOnesStay() {
        smaller("0", 0, E, 16);
        smaller("(00d-00)", 0, E, 16);
        smaller("(d1d1(0000)u1v1,1,1,1,1,1,1,1,0)", 1 + 3 * 16, T, 8);
        smaller("(d1d2d0(0000))", 32, T, 16);
        smaller("(d1d1u1,0v1,0f0)", 49, E, 8);
    }

    // "A THIN [..] one becomes EMPTY if all its entries are 0; otherwise a THIN one stays"
    private static void thinOnes() {
        smaller("d0", 0, E, 16);
        smaller("u0v5", 0, E, 16);
        smaller("u5v0", 0, E, 16);
        smaller("u0,0v-0", 0, E, 16);
        smaller("d1", 32, T, 16);
        smaller("u0,1,0v1,0", 32, T, 16);
        smaller("u0,0,0,0,0,0,0,0,0,0,0,0,0,0,0,1v0,0,0,0,0,0,0,0,0,0,0,0,0,0,0,1", 32, T, 16);
        smaller("u6v4", 32, T, 16);
        smaller(at(1, "d1"), 17, T, 8);
        smaller(at(2, "d1"), 10, T, 4);
        smaller(at(3, "d1"), 7, T, 2);
        smaller(at(1, "d0"), 0, E, 16);
        smaller(at(2, "d0"), 0, E, 16);
        smaller(at(3, "d0"), 0, E, 16);
        // What a row has beyond its place does not matter, also for this.
        smaller(at(3, "u0,0,1v1"), 0, E, 16);
        smaller(at(3, "u0,1v1"), 7, T, 2);
    }

    // "A [..] FULL one becomes EMPTY if all its entries are 0; [..] THIN [..] if its entries can be told by one product"
    private static void fullOnes() {
        smaller("f0", 0, E, 16);
        smaller("f-0", 0, E, 16);
        smaller("f1", 32, T, 16);
        smaller("f0,0,0,0,0,0,0,0,0,0,0,0,0,0,0,1,0", 32, T, 16);
        smaller("f0,1,0", 32, T, 16);
        smaller("f1,2", 256, F, 16);
        smaller(at(1, "f1"), 17, T, 8);
        smaller(at(1, "f1,2"), 65, F, 8);
        smaller(at(2, "f1"), 10, T, 4);
        smaller(at(2, "f1,2"), 18, F, 4);
        // Twice 2 is 2 times 2: the room stays, but the sort does not.
        smaller(at(3, "f1"), 7, T, 2);
        smaller(at(3, "f1,2"), 7, F, 2);
        smaller(at(3, "f0"), 0, E, 16);
        smaller(at(3, "f0,0,0,1"), 7, T, 2);
        BlockTrees x = everyBlockCut();
        is("the most that can be less", x.wouldTake(0), 0);
        is("the most that can be less", x.shrink(0), 277);
        is("the whole is empty", x.count(1), 15);
    }

    // "its four blocks are made smaller first; if all of them are empty then, it becomes EMPTY"
    private static void cutOnesWithEmptyBlocks() {
        smaller("(0000)", 0, E, 16);
        smaller("((0000)(0000)(0000)(0000))", 0, E, 16);
        smaller("(000(000(0000)))", 0, E, 16);
        smaller("(0f0d0(0000))", 0, E, 16);
        smaller("(0(0f0d0(0000))00)", 0, E, 16);
        smaller("(d1(0000)d0f0)", 17, E, 8);
        smaller("(0d1(0000)d0)", 17, E, 8);
        smaller("(00d1(0000))", 17, E, 8);
        smaller("((0000)f0d0d1)", 17, T, 8);
        smaller("(000(000(0f0d0d1)))", 7, T, 2);
    }

    // "and twice its size is not more than its room then": just below it, and just above it, for each size.
    private static void cutOnesThatTakeLessThanTheProduct() {
        // Of the size 4, twice it is 8: 1 + 4, then 1 + 4 + 4.
        smaller(at(2, "(000d1)"), 2 + 5, T, 2);
        smaller(at(2, "(00d1d2)"), 2 + 8, T, 4);
        smaller(at(2, "(0u1v1,1,00d2)"), 2 + 8, T, 4);
        smaller(at(2, "(d1d2d3d6)"), 2 + 8, T, 4);
        // Of the size 8, twice it is 16: 1 + 5 + 8, then 1 + 8 + 8.
        smaller(at(1, "(00(000d1)u0,0,1v0,0,1)"), 1 + 14, T, 4);
        smaller(at(1, "(00d1d2)"), 1 + 16, T, 8);
        smaller(at(1, "(00(000d1)(000d1))"), 1 + 11, T, 2);
        smaller(at(1, "((000d1)(000d1)(000d1)(000d1))"), 1 + 16, T, 8);
        // Of the size 16, twice it is 32: 1 + 6 + 6 + 9 + 9, then 1 + 6 + 6 + 6 + 14.
        String six = "(000(000d1))";
        String nine = "(000u0,0,1v0,0,1)";
        smaller("(" + six + six + nine + nine + ")", 31, T, 4);
        smaller("(" + six + six + nine + six + ")", 28, T, 2);
        smaller("(" + six + "(00(000d1)(000d1))" + six + six + ")", 30, T, 2);
        smaller("(00d1d1)", 32, T, 16);
        smaller("(d1d1d1d1)", 32, T, 16);
    }

    // "its room then": after its blocks were made smaller, not before.
    private static void cutOnesAreMeasuredAfterTheirBlocks() {
        // 1 + 16 is not below 16, but 1 + 8 is.
        smaller(at(1, "(000f1)"), 10, T, 4);
        // 1 + 64 is not below 32, but 1 + 16 is.
        smaller("(000f1)", 17, T, 8);
        // Blocks that are THIN with zeros are EMPTY then: 1 + 4 + 4 is not below 8, but 1 + 4 is.
        smaller(at(2, "(0d00d1)"), 7, T, 2);
        // The block of 8 is measured with 1 + 5 + 5, not with 1 + 13 + 13.
        smaller(at(1, "(00(d0d0d0d1)(d0d0d0d1))"), 12, T, 2);
    }

    // "otherwise it stays": its blocks are smaller all the same.
    private static void cutOnesOfNoProduct() {
        smaller("(d1d1d1d2)", 65, T, 8);
        smaller("(0d1d1d1)", 49, T, 8);
        smaller("(0d1d1f0)", 33, E, 8);
        smaller("(f1f1f1f2)", 65, T, 8);
        smaller("(f1f1f1f1,2)", 1 + 3 * 16 + 64, F, 8);
        smaller("((d1d1d1d1)d1d1d2)", 65, T, 8);
        smaller("(d1d1d1(d1d1d1d2))", 1 + 3 * 16 + 33, T, 4);
    }

    // ---- texts

    // "The pad is a text of at most 80 characters"
    private static void padOf80() {
        BlockTrees x = new BlockTrees();
        String text = "f1" + ",1".repeat(38) + ",2";
        Due.put(x, text);
        is("80 stand", x.count(3), 80);
        is("80 are read", x.fault(), BlockTrees.NONE);
        is("no more", x.put('0'), BlockTrees.TOO_MANY);
        is("80 are told", x.tell(0), 256);
        is("the last of 80", x.at(0, 2, 7), 1000002);
        is("the one before it", x.at(0, 2, 6), 1000001);
        Due.put(x, text.substring(0, 79));
        is("79 stand", x.count(3), 79);
        is("79 end too early", x.fault(), 79);
        is("one more stands", x.put('3'), 80);
        is("80 are told", x.tell(0), 256);
        is("the last of 80", x.at(0, 2, 7), 1000003);
    }

    // "the last value of each goes on to the end of the row"; "entry by entry, row by row, the last value goes on, too"
    private static void valuesThatGoOn() {
        BlockTrees x = Due.told(at(2, "u1,2v5,6"));
        row("u and v", x, 12, 11, 0, 5, 6, 6, 6);
        row("u and v", x, 13, 11, 0, 10, 12, 12, 12);
        row("u and v", x, 15, 11, 0, 10, 12, 12, 12);
        x = Due.told(at(2, "u1,2,3v5,6,7"));
        row("one is missing", x, 15, 12, 15, 18, 21, 21);
        x = Due.told(at(2, "u1,2,3,4v5,6,7,8"));
        row("just as many", x, 15, 12, 20, 24, 28, 32);
        row("just as many", x, 11, 12, 0, 0, 0, 0);
        x = Due.told("u1v1,2,3,4,5,6,7,8,9,10,11,12,13,14,15");
        row("15 of 16", x, 0, 13, 14, 15, 15);
        x = Due.told("u1v1,2,3,4,5,6,7,8,9,10,11,12,13,14,15,16");
        row("16 of 16", x, 15, 13, 14, 15, 16);
        x = Due.told("u1,2,3,4,5,6,7,8,9,10,11,12,13,14,15,16v1");
        row("16 of 16", x, 14, 15, 15);
        row("16 of 16", x, 15, 15, 16);
        x = Due.told(at(3, "f1"));
        row("one of four", x, 14, 13, 0, 1, 1);
        row("one of four", x, 15, 13, 0, 1, 1);
        x = Due.told(at(3, "f1,2,3"));
        row("three of four", x, 14, 13, 0, 1, 2);
        row("three of four", x, 15, 13, 0, 3, 3);
        x = Due.told(at(3, "f1,2,3,4"));
        row("four of four", x, 14, 13, 0, 1, 2);
        row("four of four", x, 15, 13, 0, 3, 4);
        x = Due.told(at(2, "f1,2,3,4,5"));
        row("on to the next row", x, 12, 11, 0, 1, 2, 3, 4);
        row("on to the next row", x, 13, 11, 0, 5, 5, 5, 5);
        row("on to the end", x, 15, 11, 0, 5, 5, 5, 5);
        x = Due.told(at(1, "d-7"));
        row("d: u all value, v all 1", x, 7, 7, 0, 0, 0, 0, 0, 0, 0, 0, 0);
        row("d: u all value, v all 1", x, 8, 7, 0, -7, -7, -7, -7, -7, -7, -7, -7);
        row("d: u all value, v all 1", x, 15, 7, 0, -7, -7, -7, -7, -7, -7, -7, -7);
    }

    // "Values beyond what a block has place for do not matter."
    private static void valuesBeyondThePlace() {
        String[] all = {"u1,2,999v3,4,-999", "u1,2,0v3,4,0,0,0,0"};
        for (String text : all) {
            BlockTrees x = Due.told("(((" + text + "d0d0d0)000)000)");
            row(text, x, 0, 0, 3, 4, 0, 0, 0);
            row(text, x, 1, 0, 6, 8, 0, 0, 0);
            row(text, x, 2, 0, 0, 0, 0, 0, 0);
        }
        BlockTrees x = Due.told("(((f1,2,3,4,999,-999d0d0d0)000)000)");
        row("f", x, 0, 0, 1, 2, 0, 0, 0);
        row("f", x, 1, 0, 3, 4, 0, 0, 0);
        row("f", x, 2, 0, 0, 0, 0, 0, 0);
        is("the last one does not go on", Due.tell(x, 0, "(((f1,2,3,4,0000)000)000)"), 7);
        row("the last one does not go on", x, 1, 0, 3, 4, 0);
        x = Due.told("u1,1,1,1,1,1,1,1,1,1,1,1,1,1,1,2,3v1,1,1,1,1,1,1,1,1,1,1,1,1,1,1,4,5");
        row("17 of 16", x, 15, 14, 2, 8);
        row("17 of 16", x, 14, 14, 1, 4);
        x = Due.told("((000f1,2,3,4,5,6,7,8,9,10,11,12,13,14,15,16,17)000)");
        row("17 of 16", x, 7, 3, 0, 13, 14, 15, 16, 0);
        row("17 of 16", x, 8, 3, 0, 0, 0, 0, 0, 0);
        is("they are read, too", Due.fault(x, at(3, "f1,2,3,4,1000")), 12 + 12);
        is("they are read, too", Due.fault(x, at(3, "u1,2,3v1,2,x")), 12 + 11);
        is("they are read, too", Due.fault(x, at(3, "u1v1,2,03")), 12 + 8);
    }

    // "A number is 0 to 999": the fault is "also [..] a digit by which a number would be above 999".
    private static void numbers() {
        for (String number : new String[] {"0", "1", "9", "10", "99", "100", "998", "999"}) {
            int value = Integer.parseInt(number);
            row("d" + number, Due.told("d" + number), 15, 15, value);
            row("d-" + number, Due.told("d-" + number), 15, 15, -value);
            row("f" + number, Due.told("f" + number), 15, 15, value);
            row("u-" + number, Due.told("u-" + number + "v-1"), 15, 15, value);
        }
        BlockTrees x = new BlockTrees();
        is("1000", Due.fault(x, "d1000"), 4);
        is("-1000", Due.fault(x, "d-1000"), 5);
        is("9990", Due.fault(x, "d9990"), 4);
        is("far above", Due.fault(x, "d99999999999999999999"), 4);
        is("1000 in u", Due.fault(x, "u1000v1"), 4);
        is("1000 in v", Due.fault(x, "u1v1000"), 6);
        is("1000 in f", Due.fault(x, "f1,1000"), 6);
        is("two signs", Due.fault(x, "d--1"), 2);
        is("a sign behind the number", Due.fault(x, "d1-"), 2);
        is("a sign alone", Due.fault(x, "d-"), 2);
        is("another sign", Due.fault(x, "d+1"), 1);
    }

    // "it goes on as long as digits follow, but not behind a 0 that it begins with"
    private static void leadingZeros() {
        BlockTrees x = new BlockTrees();
        is("d0000 are four blocks", Due.tell(x, 0, "(d0000)"), 17);
        is("the first one is THIN", x.block(0, 0, 0, 0), T);
        is("the last one is EMPTY", x.block(0, 15, 15, 0), E);
        is("-0, too", Due.tell(x, 0, "(d-0000)"), 17);
        is("v, too", Due.tell(x, 0, "(u1v0000)"), 17);
        is("f, too", Due.tell(x, 0, "(f1,0000)"), 65);
        is("10 goes on", Due.fault(x, "(d1000)"), 5);
        is("10 has an end", Due.tell(x, 0, "(d10d000)"), 33);
        is("100 goes on", Due.fault(x, "(d100d1d100f0)"), BlockTrees.NONE);
        is("100 goes on", x.tell(0), 3 * 16 + 64 + 1);
        row("100 goes on", x, 0, 7, 100, 1);
        row("100 goes on", x, 8, 7, 100, 0);
        is("d0 and a digit", Due.fault(x, "d01"), 2);
        is("d0 and a 0", Due.fault(x, "d00"), 2);
        is("d-0 and a digit", Due.fault(x, "d-05"), 3);
        is("d0 and a digit in brackets", Due.fault(x, "(d01"), 3);
        is("u0 and a 0", Due.fault(x, "u00v1"), 2);
        is("behind a comma", Due.fault(x, "f1,01"), 4);
    }

    // "A "(" in a block of the size 2 cannot stand."
    private static void bracketsInTheSize2() {
        BlockTrees x = new BlockTrees();
        is("the first one", Due.fault(x, "(((("), 3);
        is("the last one", Due.fault(x, "(000(000(000("), 12);
        is("of the size 4 it can", Due.fault(x, "(000(000(0000)))"), BlockTrees.NONE);
        is("of the size 4 it can", x.tell(0), 3);
        is("behind a bracket that is closed", Due.fault(x, "(((0000)(0000)(0000)(0000))000)"), BlockTrees.NONE);
        is("behind a bracket that is closed", Due.fault(x, "(((0000)(000("), 12);
        is("far too many", Due.fault(x, "(".repeat(80)), 3);
    }

    // "if there is none and the text ends too early (also if it is empty), it is the length of the text"
    private static void textsThatEndTooEarly() {
        BlockTrees x = new BlockTrees();
        is("empty", x.fault(), 0);
        is("empty", x.tell(0), BlockTrees.BAD_TEXT);
        String text = "(d1u2,3v-4,0f5,66,777((0000)d80f0(0000)))";
        is("the whole", Due.fault(x, text), BlockTrees.NONE);
        for (int length = 1; length < text.length(); length++) {
            is("ends behind " + length, Due.fault(x, text.substring(0, length)), length);
        }
        is("goes on", Due.fault(x, text + "0"), text.length());
        is("a fault ahead of an early end", Due.fault(x, "(x"), 1);
        is("the first one of two faults", Due.fault(x, "(x,"), 1);
        is("three blocks", Due.fault(x, "(000)"), 4);
        is("five blocks", Due.fault(x, "(00000)"), 5);
        is("no block", Due.fault(x, "()"), 1);
        is("two wholes", Due.fault(x, "00"), 1);
    }

    // For each place of the grammar: each of the 94 characters can stand there, or is the fault.
    private static void whatCanStand() {
        String block = "0duf(";
        String digits = "0123456789";
        String value = "-" + digits;
        String[][] places = {
            {"", block}, {"0", ""}, {"d", value}, {"d-", digits}, {"d0", ""}, {"d-0", ""}, {"d1", digits},
            {"d12", digits}, {"d99", digits}, {"d100", ""}, {"d999", ""}, {"d-99", digits}, {"d-100", ""},
            {"u", value}, {"u-", digits}, {"u0", ",v"}, {"u1", digits + ",v"}, {"u123", ",v"}, {"u1,", value},
            {"u1,0", ",v"}, {"u1v", value}, {"u1v-", digits}, {"u1v0", ","}, {"u1v1", digits + ","},
            {"u1v123", ","}, {"u1v1,", value}, {"f", value}, {"f-", digits}, {"f0", ","}, {"f1", digits + ","},
            {"f999", ","}, {"f1,", value}, {"f1,0", ","}, {"(", block}, {"(0", block}, {"(00", block},
            {"(000", block}, {"(0000", ")"}, {"(0000)", ""}, {"(d1", block + digits}, {"(d0", block},
            {"(d123", "duf("}, {"(u1", digits + ",v"}, {"(u1v1", block + digits + ","}, {"(u1v0", block + ","},
            {"(f1", block + digits + ","}, {"(f0", block + ","}, {"(000d1", digits + ")"}, {"(000d0", ")"},
            {"(000u1v1", digits + ",)"}, {"(000f1", digits + ",)"}, {"(000f0", ",)"}, {"((", block},
            {"(((", "0duf"}, {"(((0", "0duf"}, {"(((000", "0duf"}, {"(((0000", ")"}, {"(((0000)", block},
            {"(((0000)000)000)", ""}, {"(((d1", "duf" + digits}, {"(((f1", "duf," + digits}};
        for (String[] place : places) {
            BlockTrees x = new BlockTrees();
            int end = place[0].length();
            for (char sign = 33; sign <= 126; sign++) {
                int fault = Due.fault(x, place[0] + sign);
                boolean stands = fault == BlockTrees.NONE || fault > end;
                is(place[0] + " and then " + sign, stands ? 1 : 0, place[1].indexOf(sign) >= 0 ? 1 : 0);
                if (!stands) {
                    is(place[0] + " and then " + sign + " as the fault", fault, end);
                }
            }
        }
    }
}
