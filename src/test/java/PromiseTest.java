/** For each promise of the document: ordinary calls, the edges that it names, and wrong arguments. */
public final class PromiseTest {
    private static final int MIN = Integer.MIN_VALUE;
    private static final int MAX = Integer.MAX_VALUE;
    private static final long NO_PRODUCT = -1000000000000L;
    private static final int[] NO_MATRIX = {-1, 4, MIN, MAX};
    private static final int[] NO_PLACE = {-1, 16, MIN, MAX};

    private static final Due due = new Due();

    public static void main(String[] args) {
        promise1();
        promise2();
        promise3();
        promise4();
        promise5();
        promise6();
        promise7();
        promise8();
        promise9();
        promise10();
        promise11();
        promise12();
        promise13();
        promise14();
        promise15();
        promise16();
        promise17();
        promise18();
        promise19();
        promise20();
        promise21();
        promise22();
        promise23();
        promise24();
        promise25();
        errorsChangeNothing();
        due.finish();
    }

    private static BlockTrees told(String text) {
        BlockTrees x = new BlockTrees();
        due.holds("tell " + text, Due.tell(x, 0, text) >= 0);
        return x;
    }

    private static void is(String call, long got, long want) {
        due.is(call, got, want);
    }

    private static void entries(String what, BlockTrees x, int row, int column, int... wanted) {
        for (int j = 0; j < wanted.length; j++) {
            is(what + " at " + row + ", " + (column + j), x.at(0, row, column + j) - 1000000, wanted[j]);
        }
    }

    private static void promise1() {
        BlockTrees x = new BlockTrees();
        for (int m = 0; m < 4; m++) {
            is("1 sort", x.block(m, 9, 9, 0), BlockTrees.EMPTY);
            is("1 size", x.block(m, 9, 9, 1), 16);
            is("1 filled", x.of(m, 6), 0);
        }
        is("1 room", x.count(0), 0);
        is("1 empty ones", x.count(1), 15);
        is("1 changes", x.count(2), 0);
        is("1 pad", x.count(3), 0);
        is("1 history", x.count(4), 0);
        is("1 slot 0", x.restore(0), BlockTrees.NOT_POSSIBLE);
        is("1 slot 1", x.restore(1), BlockTrees.NOT_POSSIBLE);
    }

    private static void promise2() {
        BlockTrees x = new BlockTrees();
        is("2 cut", Due.tell(x, 0, "(0d5f1,2u1,2v3,-4)"), 1 + 16 + 64 + 16);
        is("2 pad is emptied", x.count(3), 0);
        is("2 change", x.count(2), 1);
        entries("2 empty", x, 7, 0, 0, 0, 0, 0, 0, 0, 0, 0);
        entries("2 d", x, 7, 8, 5, 5, 5, 5, 5, 5, 5, 5);
        entries("2 f", x, 8, 0, 1, 2, 2, 2, 2, 2, 2, 2);
        entries("2 f goes on", x, 9, 0, 2, 2, 2, 2, 2, 2, 2, 2);
        entries("2 uv", x, 8, 8, 3, -4, -4, -4, -4, -4, -4, -4);
        entries("2 uv goes on", x, 15, 8, 6, -8, -8, -8, -8, -8, -8, -8);
        is("2 an empty one", Due.tell(x, 0, "0"), 0);
        entries("2 nothing stays", x, 7, 8, 0, 0, 0, 0, 0, 0, 0, 0);
        is("2 beyond the place", Due.tell(x, 0, "(((00f1,2,3,4,5,6u1,2,3v4,5,6)000)000)"), 3 + 4 + 4);
        entries("2 beyond f and uv", x, 2, 0, 1, 2, 4, 5, 0);
        entries("2 beyond f and uv", x, 3, 0, 3, 4, 8, 10, 0);
        is("2 d of a 0", Due.tell(x, 0, "(d0000)"), 1 + 16);
        is("2 THIN of zeros", x.block(0, 0, 0, 0), BlockTrees.THIN);
        is("2 bad text", Due.tell(x, 0, "d5x"), BlockTrees.BAD_TEXT);
        is("2 a bad text stays", x.count(3), 3);
        is("2 no matrix first", x.tell(4), BlockTrees.NO_SUCH);
        is("2 no matrix first", x.tell(-1), BlockTrees.NO_SUCH);
        x.wipe();
        is("2 no text", x.tell(0), BlockTrees.BAD_TEXT);
        is("2 changes", x.count(2), 4);
        is("2 greatest numbers", Due.tell(x, 3, "u999v-999"), 32);
        is("2 greatest numbers", x.at(3, 15, 15), 1000000 - 998001);
    }

    private static void promise3() {
        BlockTrees x = told("u1,2,3v1,2,3,4,5");
        is("3 previous", x.entry(0, 2, 1, -7), 1000006);
        entries("3 the block", x, 2, 0, 3, -7, 9, 12, 15);
        entries("3 the block", x, 3, 0, 3, 6, 9, 12, 15);
        is("3 FULL of 2", x.block(0, 3, 0, 0), BlockTrees.FULL);
        is("3 FULL of 2", x.block(0, 3, 0, 1), 2);
        is("3 THIN of 2", x.block(0, 0, 0, 0), BlockTrees.THIN);
        is("3 THIN of 4", x.block(0, 0, 4, 1), 4);
        is("3 THIN of 8", x.block(0, 15, 15, 0), BlockTrees.THIN);
        is("3 room", x.of(0, 0), 3 + 4 + 3 * 4 + 3 * 8 + 3 * 16);
        is("3 cut again", x.entry(0, 15, 15, 1000000), 1000015);
        is("3 greatest", x.at(0, 15, 15), 2000000);
        is("3 previous greatest", x.entry(0, 15, 15, -1000000), 2000000);
        is("3 previous least", x.entry(0, 15, 15, 0), 0);

        BlockTrees full = told("f1,2,3");
        is("3 FULL", full.entry(0, 0, 0, 1), 1000001);
        is("3 FULL ones", full.of(0, 3), 10);
        is("3 FULL room", full.of(0, 0), 3 + 256);
        is("3 CUT ones", full.of(0, 5), 3);
        entries("3 FULL", full, 0, 0, 1, 2, 3, 3);

        BlockTrees empty = new BlockTrees();
        is("3 EMPTY", empty.entry(1, 5, 10, 0), 1000000);
        is("3 a FULL one of zeros", empty.of(1, 3), 1);
        is("3 EMPTY ones", empty.of(1, 2), 9);
        is("3 changes", empty.count(2), 1);
        for (int wrong : NO_PLACE) {
            is("3 row", empty.entry(0, wrong, 0, 1), BlockTrees.NO_SUCH);
            is("3 column", empty.entry(0, 0, wrong, 1), BlockTrees.NO_SUCH);
        }
        for (int wrong : NO_MATRIX) {
            is("3 matrix", empty.entry(wrong, 0, 0, MAX), BlockTrees.NO_SUCH);
        }
        for (int wrong : new int[] {1000001, -1000001, MIN, MAX}) {
            is("3 value", empty.entry(0, 0, 0, wrong), BlockTrees.BAD_VALUE);
        }
        is("3 no change", empty.count(2), 1);
    }

    private static void promise4() {
        is("4 a FULL one", told("f2").shrink(0), 256 - 32);
        is("4 a FULL one that stays", told("f1,2").shrink(0), 0);
        is("4 a FULL one of zeros", told("f0").shrink(0), 256);
        is("4 a THIN one of zeros", told("u0v5").shrink(0), 32);
        is("4 a THIN one", told("d5").shrink(0), 0);
        is("4 an EMPTY one", told("0").shrink(0), 0);

        BlockTrees x = told("(d1d1d1d1)");
        is("4 a CUT one of one product", x.shrink(0), 65 - 32);
        is("4 is THIN", x.block(0, 9, 9, 0), BlockTrees.THIN);
        is("4 is THIN", x.block(0, 9, 9, 1), 16);
        entries("4 entries stay", x, 9, 0, 1, 1, 1, 1, 1, 1, 1, 1, 1);

        x = told("(d1d1d1d2)");
        is("4 a CUT one of two products", x.shrink(0), 0);
        is("4 it stays", x.of(0, 5), 1);
        is("4 empty parts", told("(0(0d000)0f0)").shrink(0), 1 + 1 + 8 + 64);

        // Inside of the 8: 1 + 4 * 8 = 33 is more than 16; the whole: 1 + 16 is less than 32.
        x = told("((d1d1d1d1)000)");
        is("4 only as deep as it helps", x.shrink(0), 33 - 16);
        is("4 still CUT", x.block(0, 0, 0, 1), 8);
        is("4 a 4 of one 2", told("(((000d5)000)000)").shrink(0), 0);
        // 1 + 4 + 4 = 9 is more than twice 4, 1 + 4 is less.
        x = told("(((00d5d5)000)000)");
        is("4 a 4 of two 2s", x.shrink(0), 1);
        is("4 a 4 of two 2s", x.block(0, 0, 0, 1), 4);
        // 1 + 5 + 5 = 11 is less than twice 8.
        x = told("(((000d1)(000d1)00)000)");
        is("4 an 8 of two 2s", x.isOne(0, 0, 0, 8), 1);
        is("4 an 8 of two 2s", x.shrink(0), 0);
        x = told("((00(000d1)d1)000)");
        is("4 no product", x.isOne(0, 0, 0, 8), 0);
        is("4 parts first", x.shrink(0), 0);

        // Signs: the row p is turned if it is below 0 in the column q.
        x = told("f-6,4,-6,4,-6,4,-6,4,-6,4,-6,4,-6,4,-6,4,9,-6,9,-6,9,-6,9,-6,9,-6,9,-6,0");
        is("4 not of one product", x.shrink(0), 0);
        x = new BlockTrees();
        x.entry(0, 0, 0, -6);
        x.entry(0, 0, 1, 4);
        x.entry(0, 1, 0, 9);
        x.entry(0, 1, 1, -6);
        is("4 of one product", x.shrink(0), 0);
        is("4 a THIN one of 2", x.block(0, 0, 0, 0), BlockTrees.THIN);
        entries("4 signs", x, 0, 0, -6, 4);
        entries("4 signs", x, 1, 0, 9, -6);
        x.entry(0, 1, 1, -7);
        is("4 no product", x.isOne(0, 0, 0, 2), 0);
        x.shrink(0);
        is("4 a FULL one of 2", x.block(0, 0, 0, 0), BlockTrees.FULL);

        // Products of entries go beyond an int.
        x = new BlockTrees();
        x.entry(0, 0, 0, 65536);
        x.entry(0, 1, 1, 65536);
        x.shrink(0);
        is("4 wide products", x.block(0, 0, 0, 0), BlockTrees.FULL);
        is("4 changes", x.count(2), 3);
        for (int wrong : NO_MATRIX) {
            is("4 matrix", x.shrink(wrong), BlockTrees.NO_SUCH);
        }
        is("4 no change", x.count(2), 3);
    }

    private static void promise5() {
        BlockTrees x = told("(d1d2f3(0000))");
        Due.tell(x, 1, "(0d1d1d1)");
        is("5 both CUT", x.add(0, 1, 2), 1 + 16 + 64 + 64 + 64);
        is("5 the other's EMPTY one", x.block(0, 0, 0, 0), BlockTrees.THIN);
        is("5 FULL now", x.block(0, 0, 8, 0), BlockTrees.FULL);
        is("5 FULL now", x.block(0, 8, 8, 0), BlockTrees.FULL);
        entries("5 sums", x, 0, 6, 1, 1, 4, 4);
        entries("5 sums", x, 8, 6, 5, 5, 2, 2);

        x = told("((d1d1d1d1)(d1d1d1d1)(d1d1d1d1)(d1d1d1d1))");
        x.copy(1, 0);
        is("5 CUT twice", x.add(0, 1, 2), 5 + 256);
        for (int row = 0; row < 16; row++) {
            entries("5 each entry once", x, row, 0, 3, 3, 3, 3, 3, 3, 3, 3, 3, 3, 3, 3, 3, 3, 3, 3);
        }

        x = told("(000d1)");
        Due.tell(x, 1, "d1");
        is("5 CUT and THIN", x.add(0, 1, -1), 256);
        is("5 CUT and THIN", x.block(0, 0, 0, 1), 16);
        entries("5 CUT and THIN", x, 8, 6, -1, -1, 0, 0);
        x = told("d1");
        Due.tell(x, 1, "(000d1)");
        is("5 THIN and CUT", x.add(0, 1, 1), 256);
        entries("5 THIN and CUT", x, 8, 6, 1, 1, 2, 2);
        x = told("(d1d1d1d1)");
        is("5 the other one EMPTY", x.add(0, 2, 5), 65);
        x = told("0");
        Due.tell(x, 1, "(0000)");
        is("5 EMPTY and CUT", x.add(0, 1, 1), 256);
        is("5 the other one stays", x.of(1, 0), 1);
        Due.tell(x, 2, "(0000)");
        is("5 both CUT of EMPTY ones", x.add(2, 1, 1), 1);

        x = told("(((000f999)000)000)");
        x.copy(1, 0);
        for (int k = 0; k < 11; k++) {
            is("5 room", x.add(0, 1, 99), 7);
        }
        is("5 put to within", x.at(0, 3, 3), 2000000);
        is("5 not beyond", x.at(0, 4, 4), 1000000);
        x.add(0, 1, -99);
        is("5 from the bound on", x.at(0, 2, 2), 2000000 - 98901);
        for (int k = 0; k < 21; k++) {
            x.add(0, 1, -99);
        }
        is("5 put to within", x.at(0, 3, 3), 0);
        is("5 changes", x.count(2), 2 + 11 + 22);

        for (int wrong : NO_MATRIX) {
            is("5 matrix", x.add(wrong, 0, 0), BlockTrees.NO_SUCH);
            is("5 other", x.add(0, wrong, 0), BlockTrees.NO_SUCH);
        }
        for (int wrong : new int[] {0, 100, -100, MIN, MAX}) {
            is("5 times", x.add(0, 1, wrong), BlockTrees.BAD_VALUE);
        }
        is("5 both the same", x.add(2, 2, 1), BlockTrees.BAD_VALUE);
        is("5 no change", x.count(2), 2 + 11 + 22);
    }

    private static void promise6() {
        BlockTrees x = told("(u1,2v3,4f1,2,3(0000)(0d7(0000)(0000)))");
        int room = x.of(0, 0);
        is("6 trace", x.turn(0), 100000000 + 3 + 8 * 7);
        is("6 room", x.of(0, 0), room);
        is("6 THIN", x.block(0, 0, 0, 0), BlockTrees.THIN);
        is("6 1 and 2 change places", x.block(0, 8, 0, 0), BlockTrees.FULL);
        is("6 1 and 2 change places", x.block(0, 0, 8, 0), BlockTrees.EMPTY);
        is("6 deeper, too", x.block(0, 12, 8, 0), BlockTrees.THIN);
        is("6 deeper, too", x.block(0, 8, 12, 0), BlockTrees.EMPTY);
        entries("6 THIN", x, 0, 0, 3, 6, 6);
        entries("6 THIN", x, 1, 0, 4, 8, 8);
        entries("6 FULL", x, 8, 0, 1, 3, 3);
        entries("6 FULL", x, 9, 0, 2, 3, 3);
        entries("6 FULL", x, 10, 0, 3, 3, 3);
        is("6 change", x.count(2), 2);
        BlockTrees deep = told("(((0d1f2,3d0)000)000)");
        deep.turn(0);
        is("6 blocks of 2, too", deep.block(0, 0, 2, 0), BlockTrees.FULL);
        is("6 blocks of 2, too", deep.block(0, 2, 0, 0), BlockTrees.THIN);
        entries("6 blocks of 2, too", deep, 0, 2, 2, 3);
        entries("6 blocks of 2, too", deep, 1, 2, 3, 3);
        is("6 trace below 0", told("d-5").turn(0), 100000000 - 80);
        is("6 EMPTY", x.turn(3), 100000000);
        for (int wrong : NO_MATRIX) {
            is("6 matrix", x.turn(wrong), BlockTrees.NO_SUCH);
        }
        is("6 changes", x.count(2), 3);
    }

    private static void promise7() {
        BlockTrees x = told("(00d1f2)");
        Due.tell(x, 1, "d3");
        is("7 room", x.copy(1, 0), 81);
        is("7 entry", x.at(1, 15, 15), 1000002);
        is("7 sort", x.block(1, 8, 0, 0), BlockTrees.THIN);
        x.entry(1, 8, 0, 50);
        is("7 of its own then", x.at(0, 8, 0), 1000001);
        is("7 changes", x.count(2), 4);
        for (int wrong : NO_MATRIX) {
            is("7 matrix", x.copy(wrong, 0), BlockTrees.NO_SUCH);
            is("7 from", x.copy(0, wrong), BlockTrees.NO_SUCH);
            is("7 both", x.copy(wrong, wrong), BlockTrees.NO_SUCH);
        }
        is("7 the same", x.copy(2, 2), BlockTrees.BAD_VALUE);
        is("7 no change", x.count(2), 4);
    }

    private static void promise8() {
        BlockTrees x = told("((d1d1d1d1)d2f3(0000))");
        is("8 size", x.clear(0, 5, 2), 4);
        is("8 empty", x.block(0, 4, 0, 0), BlockTrees.EMPTY);
        entries("8 entries", x, 4, 0, 0, 0, 0, 0, 1);
        entries("8 entries", x, 3, 0, 1);
        entries("8 entries", x, 8, 0, 3);
        is("8 size", x.clear(0, 7, 15), 8);
        is("8 an EMPTY one", x.clear(0, 15, 15), 4);
        is("8 stays CUT", x.of(0, 5), 3);
        is("8 the whole", told("f9").clear(0, 15, 0), 16);
        is("8 changes", x.count(2), 4);
        for (int wrong : NO_PLACE) {
            is("8 row", x.clear(0, wrong, 0), BlockTrees.NO_SUCH);
            is("8 column", x.clear(0, 0, wrong), BlockTrees.NO_SUCH);
        }
        for (int wrong : NO_MATRIX) {
            is("8 matrix", x.clear(wrong, 0, 0), BlockTrees.NO_SUCH);
        }
        is("8 no change", x.count(2), 4);
        x = told("(0000)");
        x.clear(0, 0, 0);
        is("8 nothing is joined", x.of(0, 0), 1);
    }

    private static void promise9() {
        BlockTrees x = told("(d1d-2f3,4,5u-1,2v7,8)");
        is("9 d", x.at(0, 0, 0), 1000001);
        is("9 d", x.at(0, 7, 15), 999998);
        is("9 f", x.at(0, 8, 1), 1000004);
        is("9 uv", x.at(0, 8, 9), 999992);
        is("9 uv", x.at(0, 9, 8), 1000014);
        for (int wrong : NO_PLACE) {
            is("9 row", x.at(0, wrong, 0), BlockTrees.NO_SUCH);
            is("9 column", x.at(0, 0, wrong), BlockTrees.NO_SUCH);
        }
        for (int wrong : NO_MATRIX) {
            is("9 matrix", x.at(wrong, 0, 0), BlockTrees.NO_SUCH);
        }
    }

    private static void blockIs(String what, BlockTrees x, int row, int column, int... wanted) {
        for (int k = 0; k < wanted.length; k++) {
            is(what + ", " + k, x.block(0, row, column, k), wanted[k]);
        }
    }

    private static void promise10() {
        BlockTrees x = told("((0f1(0f2d3f2)d4)d5f6f6)");
        blockIs("10 EMPTY", x, 3, 3, 0, 4, 0, 0, 0, 2);
        blockIs("10 FULL", x, 1, 6, 1, 4, 0, 4, 16, 2);
        blockIs("10 EMPTY of 2", x, 5, 1, 0, 2, 4, 0, 0, 3);
        blockIs("10 FULL of 2", x, 5, 3, 1, 2, 4, 2, 4, 3);
        blockIs("10 THIN of 2", x, 7, 1, 2, 2, 6, 0, 4, 3);
        blockIs("10 THIN", x, 4, 4, 2, 4, 4, 4, 8, 2);
        blockIs("10 THIN of 8", x, 7, 8, 2, 8, 0, 8, 16, 1);
        blockIs("10 FULL of 8", x, 15, 15, 1, 8, 8, 8, 64, 1);
        blockIs("10 the whole", told("d1"), 15, 1, 2, 16, 0, 0, 32, 0);
        for (int wrong : new int[] {-1, 6, MIN, MAX}) {
            is("10 what", x.block(0, 0, 0, wrong), BlockTrees.BAD_VALUE);
            is("10 matrix first", x.block(4, 0, 0, wrong), BlockTrees.NO_SUCH);
        }
        for (int wrong : NO_PLACE) {
            is("10 row", x.block(0, wrong, 0, 9), BlockTrees.NO_SUCH);
            is("10 column", x.block(0, 0, wrong, 9), BlockTrees.NO_SUCH);
        }
        for (int wrong : NO_MATRIX) {
            is("10 matrix", x.block(wrong, 0, 0, 0), BlockTrees.NO_SUCH);
        }
    }

    private static void ofIs(String what, BlockTrees x, int... wanted) {
        for (int k = 0; k < wanted.length; k++) {
            is(what + ", " + k, x.of(0, k), wanted[k]);
        }
    }

    private static void promise11() {
        BlockTrees x = told("((0f1(0f-2d3d0)d4)d5(0000)d0)");
        int filled = 16 + 4 + 4 + 16 + 64;
        ofIs("11", x, 4 + 16 + 4 + 4 + 4 + 8 + 16 + 16, 3, 6, 2, 5, 4, filled, 100000016, 1000005, 999998, 0);
        ofIs("11 EMPTY", new BlockTrees(), 0, 0, 1, 0, 0, 0, 0, 100000000, 1000000, 1000000, 1);
        ofIs("11 all below 0", told("d-3"), 32, 0, 0, 0, 1, 0, 256, 100000000 - 48, 999997, 999997, 1);
        ofIs("11 all above 0", told("f3,4"), 256, 0, 0, 1, 0, 0, 256, 100000063, 1000004, 1000003, 1);
        is("11 its own turned one by entries", told("(d2f2(0000)0)").of(0, 10), 0);
        is("11 its own turned one by entries", told("(d2f2d2(0000))").of(0, 10), 1);
        is("11 the last entry", told("(000(000(000f0,1,0)))").of(0, 10), 0);
        x = told("0");
        x.entry(0, 15, 14, 1);
        is("11 one entry", x.of(0, 10), 0);
        x.entry(0, 14, 15, 1);
        is("11 both entries", x.of(0, 10), 1);
        x.entry(0, 15, 15, -1000000);
        is("11 least", x.of(0, 9), 0);
        is("11 trace", x.of(0, 7), 99000000);
        x.entry(0, 15, 15, 1000000);
        is("11 greatest", x.of(0, 8), 2000000);
        for (int wrong : new int[] {-1, 11, MIN, MAX}) {
            is("11 what", x.of(0, wrong), BlockTrees.BAD_VALUE);
            is("11 matrix first", x.of(4, wrong), BlockTrees.NO_SUCH);
        }
        for (int wrong : NO_MATRIX) {
            is("11 matrix", x.of(wrong, 0), BlockTrees.NO_SUCH);
        }
    }

    private static void promise12() {
        BlockTrees x = told("u1,2v1,2,3,0");
        is("12 a", x.product(0, 0, 10, 0), 60);
        is("12 b", x.product(0, 1, 0, 1), 2 * (2 + 6));
        is("12 both", x.product(0, 15, -3, -2), 2 * (-3 - 10 - 21));
        x = new BlockTrees();
        for (int j = 0; j < 16; j++) {
            x.entry(0, 15, j, -1000000);
        }
        is("12 wide", x.product(0, 15, 9999, 999), -1000000L * (16 * 9999 + 999 * 120));
        is("12 wide", x.product(0, 15, -9999, -999), 1000000L * (16 * 9999 + 999 * 120));
        is("12 another row", x.product(0, 14, 9999, 999), 0);
        for (int wrong : NO_PLACE) {
            is("12 row", x.product(0, wrong, 0, 0), NO_PRODUCT);
        }
        for (int wrong : NO_MATRIX) {
            is("12 matrix", x.product(wrong, 0, 0, 0), NO_PRODUCT);
        }
        for (int wrong : new int[] {10000, -10000, MIN, MAX}) {
            is("12 a", x.product(0, 0, wrong, 0), NO_PRODUCT);
        }
        for (int wrong : new int[] {1000, -1000, MIN, MAX}) {
            is("12 b", x.product(0, 0, 0, wrong), NO_PRODUCT);
        }
    }

    private static void promise13() {
        BlockTrees x = new BlockTrees();
        is("13 nothing", x.mean(0), 0L);
        int[] values = {1, -1, 2, -3, 5, 255, 256, 257, 511, 999999, -999999, 1000000, -1000000};
        for (int value : values) {
            x.entry(0, 3, 4, value);
            is("13 of " + value, x.mean(0), Double.doubleToLongBits((double) value / 256));
        }
        x.entry(0, 0, 0, 1000000);
        is("13 a sum of 0", x.mean(0), 0L);
        is("13 all", told("u999v-999").mean(0), Double.doubleToLongBits(-998001.0));
        for (int wrong : NO_MATRIX) {
            is("13 matrix", x.mean(wrong), 0L);
        }
    }

    private static void promise14() {
        String[] texts = {"0", "(0000)", "((0000)000)", "(((000d1)000)000)", "d1", "f1", "(f1f1f1f1)", "(000d1)"};
        int[] rooms = {0, 1, 2, 7, 32, 256, 257, 17};
        for (int k = 0; k < texts.length; k++) {
            is("14 " + texts[k], told(texts[k]).share(0), Float.floatToIntBits((float) rooms[k] / 256));
        }
        BlockTrees x = told("f1");
        for (int cell = 0; cell < 256; cell += 2) {
            x.entry(0, cell / 16, cell % 16, 1);
        }
        is("14 the most", x.share(0), Float.floatToIntBits(277f / 256));
        for (int wrong : NO_MATRIX) {
            is("14 matrix", x.share(wrong), BlockTrees.NO_SUCH);
        }
    }

    private static void promise15() {
        BlockTrees x = new BlockTrees();
        Due.tell(x, 1, "d1");
        Due.tell(x, 2, "(0000)");
        is("15 room", x.count(0), 33);
        is("15 empty ones", x.count(1), 1 | 8);
        is("15 changes", x.count(2), 2);
        is("15 can be undone", x.count(4), 2);
        x.shrink(2);
        is("15 empty ones", x.count(1), 1 | 4 | 8);
        x.save(0);
        is("15 save is no change", x.count(2), 3);
        for (int k = 0; k < 5; k++) {
            x.turn(0);
        }
        is("15 changes", x.count(2), 8);
        is("15 at most 6", x.count(4), 6);
        x.restore(0);
        is("15 as many as they were", x.count(2), 3);
        is("15 restore can be undone", x.count(4), 6);
        x.undo();
        is("15 as many as they were", x.count(2), 8);
        is("15 can be undone", x.count(4), 5);
        x.undo();
        is("15 one less", x.count(2), 7);
        Due.put(x, "abcdefghij");
        is("15 pad", x.count(3), 10);
        is("15 a pad is no change", x.count(2), 7);
        for (int wrong : new int[] {-1, 5, MIN, MAX}) {
            is("15 what", x.count(wrong), BlockTrees.BAD_VALUE);
        }
    }

    private static void promise16() {
        BlockTrees x = told("(d1f5d00)");
        Due.tell(x, 1, "(d1d5(0000)(0000))");
        is("16 the same entries", x.far(0, 1), 0);
        is("16 itself", x.far(0, 0), 0);
        x.entry(1, 15, 15, -9);
        is("16 without sign", x.far(0, 1), 9);
        is("16 the other way round", x.far(1, 0), 9);
        x.entry(0, 0, 0, 1000000);
        x.entry(1, 0, 0, -1000000);
        is("16 the farthest", x.far(0, 1), 2000000);
        for (int wrong : NO_MATRIX) {
            is("16 one", x.far(wrong, 0), BlockTrees.NO_SUCH);
            is("16 other", x.far(0, wrong), BlockTrees.NO_SUCH);
            is("16 both", x.far(wrong, wrong), BlockTrees.NO_SUCH);
        }
    }

    private static void promise17() {
        String[] texts = {"0", "f0", "f1", "f1,2", "d0", "(0000)", "(d1d1d1d1)", "((d1d1d1d1)000)", "(00f1,2f3)"};
        int[] rooms = {0, 0, 32, 256, 0, 0, 32, 17, 1 + 64 + 16};
        for (int k = 0; k < texts.length; k++) {
            BlockTrees x = told(texts[k]);
            int room = x.of(0, 0);
            is("17 " + texts[k], x.wouldTake(0), rooms[k]);
            is("17 nothing changes " + texts[k], x.of(0, 0), room);
            is("17 no change " + texts[k], x.count(2), 1);
            is("17 as shrink " + texts[k], room - x.shrink(0), rooms[k]);
        }
        for (int wrong : NO_MATRIX) {
            is("17 matrix", new BlockTrees().wouldTake(wrong), BlockTrees.NO_SUCH);
        }
    }

    private static void promise18() {
        BlockTrees x = told("(f1,2f3d-4(0000))");
        is("18 FULL of no product", x.isOne(0, 0, 0, 8), 0);
        is("18 a part of it", x.isOne(0, 0, 0, 2), 0);
        is("18 a part of it", x.isOne(0, 2, 6, 2), 1);
        is("18 FULL", x.isOne(0, 0, 8, 8), 1);
        is("18 THIN", x.isOne(0, 12, 4, 4), 1);
        is("18 nothing", x.isOne(0, 8, 8, 8), 2);
        is("18 the whole", x.isOne(0, 0, 0, 16), 0);
        is("18 over blocks", told("(d1d2d3d6)").isOne(0, 0, 0, 16), 1);
        is("18 over blocks", told("(d1d2d3d5)").isOne(0, 0, 0, 16), 0);
        is("18 row p is another than the first", told("(00d1d2)").isOne(0, 0, 0, 16), 1);
        is("18 column q is another than the first", told("(0d1(0000)d2)").isOne(0, 0, 0, 16), 1);
        // The entry (p, q) itself may be 0.
        is("18 crosswise", told("(0d1d1(0000))").isOne(0, 0, 0, 16), 0);
        is("18 a square with just one entry", told("(((000f0,0,0,5)000)000)").isOne(0, 0, 0, 16), 1);
        x = new BlockTrees();
        x.entry(0, 0, 0, 65536);
        x.entry(0, 1, 1, 65536);
        is("18 wide products", x.isOne(0, 0, 0, 2), 0);
        for (int wrong : new int[] {0, 1, 3, 5, 6, 7, 9, 15, 17, 32, -2, -16, MIN, MAX}) {
            is("18 size", x.isOne(0, 0, 0, wrong), BlockTrees.BAD_VALUE);
        }
        for (int wrong : new int[] {-2, -16, 1, 15, 16, 32, MIN, MAX, MAX - 1, MAX - 15}) {
            is("18 row", x.isOne(0, wrong, 0, 2), BlockTrees.BAD_VALUE);
            is("18 column", x.isOne(0, 0, wrong, 2), BlockTrees.BAD_VALUE);
        }
        is("18 no multiple", x.isOne(0, 4, 0, 8), BlockTrees.BAD_VALUE);
        is("18 no multiple", x.isOne(0, 0, 2, 4), BlockTrees.BAD_VALUE);
        is("18 the last ones", x.isOne(0, 14, 14, 2), 2);
        for (int wrong : NO_MATRIX) {
            is("18 matrix first", x.isOne(wrong, 1, 1, 3), BlockTrees.NO_SUCH);
        }
    }

    private static void promise19() {
        BlockTrees x = told("(0d6d6d4)");
        Due.tell(x, 1, "(0d-2d-2d-1)");
        is("19 times", x.bestTimes(0, 1, 0), 103);
        is("19 entries", x.bestTimes(0, 1, 1), 192);
        is("19 nothing changes", x.count(2), 2);
        x = told("(d6d4d1(0000))");
        Due.tell(x, 1, "(d2d1d00)");
        is("19 the lowest of several", x.bestTimes(0, 1, 0), 96);
        is("19 the lowest of several", x.bestTimes(0, 1, 1), 128);
        // All would be 0 by the times 0 alone.
        x = told("0");
        Due.tell(x, 1, "(000d1)");
        is("19 not 0", x.bestTimes(0, 1, 0), 1);
        is("19 not 0", x.bestTimes(0, 1, 1), 192);
        is("19 the other one EMPTY", x.bestTimes(1, 0, 0), 1);
        is("19 the other one EMPTY", x.bestTimes(1, 0, 1), 192);
        Due.tell(x, 2, "(000d99)");
        is("19 the greatest", x.bestTimes(2, 1, 0), 1);
        is("19 the greatest", x.bestTimes(2, 1, 1), 256);
        Due.tell(x, 2, "(000d-99)");
        is("19 the greatest", x.bestTimes(2, 1, 0), 199);
        Due.tell(x, 2, "(000d100)");
        is("19 beyond", x.bestTimes(2, 1, 0), 1);
        is("19 beyond", x.bestTimes(2, 1, 1), 192);
        Due.tell(x, 2, "(000d3)");
        Due.tell(x, 3, "(000d2)");
        is("19 no whole number", x.bestTimes(2, 3, 1), 192);
        for (int wrong : new int[] {-1, 2, MIN, MAX}) {
            is("19 what", x.bestTimes(0, 1, wrong), BlockTrees.BAD_VALUE);
        }
        is("19 the same", x.bestTimes(1, 1, 0), BlockTrees.BAD_VALUE);
        for (int wrong : NO_MATRIX) {
            is("19 matrix", x.bestTimes(wrong, 1, 5), BlockTrees.NO_SUCH);
            is("19 other", x.bestTimes(1, wrong, 5), BlockTrees.NO_SUCH);
            is("19 both", x.bestTimes(wrong, wrong, 5), BlockTrees.NO_SUCH);
        }
    }

    private static void promise20() {
        BlockTrees x = new BlockTrees();
        is("20 one", x.put('('), 1);
        is("20 the last one is the lowest", x.put(Due.number("d12d3d4")), 8);
        is("20 and", x.put(Due.number("d5)")), 11);
        is("20 in their order", x.fault(), BlockTrees.NONE);
        x.tell(0);
        is("20 in their order", x.at(0, 0, 0), 1000012);
        is("20 in their order", x.at(0, 15, 15), 1000005);
        is("20 nothing", x.put(0), BlockTrees.BAD_VALUE);
        is("20 blank", x.put(32), BlockTrees.BAD_VALUE);
        is("20 the first sign", x.put(33), 1);
        is("20 the last sign", x.put(126), 2);
        is("20 beyond", x.put(127), BlockTrees.BAD_VALUE);
        is("20 beyond", x.put(128), BlockTrees.BAD_VALUE);
        is("20 beyond", x.put(255), BlockTrees.BAD_VALUE);
        is("20 a hole", x.put(Due.number("a") << 8), BlockTrees.BAD_VALUE);
        is("20 a hole", x.put('a' | (long) 'b' << 16), BlockTrees.BAD_VALUE);
        is("20 a bit far above", x.put('a' | 1L << 63), BlockTrees.BAD_VALUE);
        is("20 a wrong one on top", x.put('a' | 31L << 8), BlockTrees.BAD_VALUE);
        is("20 a sign bit", x.put(-1), BlockTrees.BAD_VALUE);
        is("20 the least", x.put(Long.MIN_VALUE), BlockTrees.BAD_VALUE);
        is("20 no change", x.count(3), 2);
        x.wipe();
        for (int k = 1; k <= 9; k++) {
            is("20 eight", x.put(Due.number("~~~~~~~~")), 8 * k);
        }
        is("20 seven", x.put(Due.number("0000000")), 79);
        is("20 one too many", x.put(Due.number("00")), BlockTrees.TOO_MANY);
        is("20 bad value first", x.put(Due.number("00") << 8), BlockTrees.BAD_VALUE);
        is("20 not a part of them", x.count(3), 79);
        is("20 just full", x.put('0'), 80);
        is("20 no more", x.put('0'), BlockTrees.TOO_MANY);
        is("20 no more", x.put(Due.number("00000000")), BlockTrees.TOO_MANY);
        is("20 bad value first", x.put(0), BlockTrees.BAD_VALUE);
        is("20 no change", x.count(2), 1);
    }

    private static void promise21() {
        BlockTrees x = new BlockTrees();
        is("21 nothing", x.wipe(), 0);
        Due.put(x, "d1d2d3d4d5");
        is("21 length", x.wipe(), 10);
        is("21 emptied", x.count(3), 0);
        is("21 emptied", x.fault(), 0);
        Due.put(x, "0");
        is("21 nothing is left", x.fault(), BlockTrees.NONE);
        is("21 no change", x.count(2), 0);
    }

    private static void promise22() {
        String[] right = {"0", "d0", "d-0", "d999", "d-999", "d100", "u1v1", "u1,2,3v-1,0,0", "f0", "f0,0,-0",
            "(0000)", "(d0000)", "(d0d0d0d0)", "(((0000)000)000)", "(u0v0000)", "(u1v10u1v1u1v1u1v1)", "(f10f1f1f1)",
            "f1,1,1,1,1,1,1,1,1,1,1,1,1,1,1,1,1,1,1,1,1,1,1,1,1,1,1,1,1,1,1,1,1,1,1,1,1,1,11",
            "u1,1,1,1,1,1,1,1,1,1,1,1,1,1,1,1,1,1v1,1,1,1,1,1,1,1,1,1,1,1,1,1,1,1,1,1,1,1,1"};
        for (String text : right) {
            is("22 " + text, Due.fault(new BlockTrees(), text), BlockTrees.NONE);
        }
        String[] wrong = {"1", "x", ")", "-", ",", "v1", "v", "00", "0d", "d", "d-", "d--1", "dx", "d,", "d1,", "d1v",
            "d1000", "d9990", "d-1000", "d01", "d00", "d1-", "d(", "u", "u1", "u1,", "u1,,", "u1v", "u1vv", "uv",
            "u1v1,", "u1v1v", "u1000v1", "u1v1000", "u1f", "u0v00", "u00v0", "f", "f1,", "f1v", "f1,2,1000", "f01",
            "f1)", "(", "(0", "(000", "(0000", "(00000)", "(000)", "()", "(0000)0", "(0000))", "((((0000)",
            "(((f1,(", "(0,", "(d1d1d1d10", "(d9990000)", "(f1,2000", "D1", "d1~", "((0000)0(0000)0)(", "(0000f"};
        int[] faults = {0, 0, 0, 0, 0, 0, 0, 1, 1, 1, 2, 2, 1, 1, 2, 2,
            4, 4, 5, 2, 2, 2, 1, 1, 2, 3, 3, 3, 3, 1,
            5, 4, 4, 6, 2, 4, 2, 1, 3, 2, 8, 2,
            2, 1, 2, 4, 5, 5, 4, 1, 6, 6, 3,
            6, 2, 10, 5, 7, 0, 2, 16, 5};
        is("22 as many", wrong.length, faults.length);
        for (int k = 0; k < wrong.length; k++) {
            BlockTrees x = new BlockTrees();
            is("22 " + wrong[k], Due.fault(x, wrong[k]), faults[k]);
            is("22 the pad stays", x.count(3), wrong[k].length());
            is("22 tell " + wrong[k], x.tell(0), BlockTrees.BAD_TEXT);
        }
        is("22 empty", new BlockTrees().fault(), 0);
        BlockTrees x = new BlockTrees();
        String full = "(f1,1,1,1,1,1,1,1,1,1,1,1,1,1,1,1,1,1,1,1,1,1,1,1,1,1,1,1,1,1,1,1,1,1,1,1,1,1,1d";
        is("22 a full pad", Due.fault(x, full), full.length());
        is("22 nothing changes", x.count(2), 0);
        is("22 nothing changes", x.of(0, 0), 0);
    }

    private static void promise23() {
        BlockTrees x = new BlockTrees();
        is("23 nothing", x.undo(), BlockTrees.NOT_POSSIBLE);
        Due.tell(x, 0, "d1");
        x.entry(0, 0, 0, 7);
        x.add(1, 0, 1);
        x.turn(0);
        x.copy(2, 0);
        x.clear(2, 0, 0);
        is("23 six", x.count(4), 6);
        Due.put(x, "d5");
        x.save(0);
        is("23 clear", x.undo(), 5);
        is("23 clear", x.at(2, 0, 0), 1000007);
        is("23 copy", x.undo(), 4);
        is("23 copy", x.of(2, 0), 0);
        is("23 turn", x.undo(), 3);
        is("23 add", x.undo(), 2);
        is("23 add", x.count(1), 2 | 4 | 8);
        is("23 entry", x.undo(), 1);
        is("23 entry", x.of(0, 0), 32);
        is("23 entry", x.at(0, 0, 0), 1000001);
        is("23 tell", x.undo(), 0);
        is("23 tell", x.count(1), 15);
        is("23 changes", x.count(2), 0);
        is("23 the pad stays", x.count(3), 2);
        is("23 no more", x.undo(), BlockTrees.NOT_POSSIBLE);
        is("23 the slot stays", x.restore(0), x.count(0));
        is("23 restore", x.undo(), 0);
        is("23 restore", x.count(1), 15);

        x = new BlockTrees();
        for (int k = 1; k <= 15; k++) {
            x.entry(0, 0, 0, k);
        }
        for (int k = 14; k >= 9; k--) {
            is("23 undo", x.undo(), k - 9);
            is("23 the state before", x.at(0, 0, 0), 1000000 + k);
        }
        is("23 the oldest ones are dropped", x.undo(), BlockTrees.NOT_POSSIBLE);
        is("23 changes", x.count(2), 9);
        x.shrink(3);
        is("23 also if nothing is different", x.count(4), 1);
        is("23 on and on", x.undo(), 0);
        x.fault();
        x.wouldTake(0);
        x.put('d');
        is("23 no changes", x.count(4), 0);
    }

    private static void promise24() {
        BlockTrees x = told("d1");
        x.copy(1, 0);
        is("24 room", x.save(0), 64);
        x.clear(0, 0, 0);
        is("24 room", x.save(1), 32);
        is("24 no change", x.count(4), 3);
        is("24 slot 0", x.restore(0), 64);
        is("24 slot 1", x.restore(1), 32);
        is("24 overwritten", x.save(0), 32);
        is("24 overwritten", x.restore(0), 32);
        for (int wrong : new int[] {-1, 2, MIN, MAX}) {
            is("24 slot", x.save(wrong), BlockTrees.BAD_VALUE);
        }
        BlockTrees other = new BlockTrees();
        is("24 nothing there", other.save(1), 0);
        is("24 each slot alone", other.restore(0), BlockTrees.NOT_POSSIBLE);
        is("24 each object alone", other.restore(1), 0);
    }

    private static void promise25() {
        BlockTrees x = told("(d1d2d3d4)");
        x.save(1);
        Due.put(x, "abc");
        x.entry(0, 0, 0, 9);
        x.entry(1, 0, 0, 9);
        is("25 room", x.restore(1), 65);
        is("25 entry", x.at(0, 0, 0), 1000001);
        is("25 changes", x.count(2), 1);
        is("25 a change", x.count(4), 4);
        is("25 the pad stays", x.count(3), 3);
        x.entry(0, 15, 15, 9);
        is("25 the slot keeps it", x.restore(1), 65);
        is("25 the slot keeps it", x.at(0, 15, 15), 1000004);
        is("25 undo", x.undo(), 5);
        is("25 undo", x.at(0, 15, 15), 1000009);
        is("25 undo", x.count(2), 2);
        is("25 nothing in it", x.restore(0), BlockTrees.NOT_POSSIBLE);
        for (int wrong : new int[] {-1, 2, MIN, MAX}) {
            is("25 slot", x.restore(wrong), BlockTrees.BAD_VALUE);
        }
        is("25 no change", x.count(4), 5);
    }

    private static void errorsChangeNothing() {
        BlockTrees x = told("d1");
        Due.put(x, "d5x");
        x.tell(0);
        x.tell(4);
        x.entry(0, 0, 0, MAX);
        x.shrink(4);
        x.add(0, 0, 1);
        x.turn(-1);
        x.copy(0, 0);
        x.clear(0, 16, 0);
        x.restore(0);
        x.save(5);
        x.put(0);
        is("errors: changes", x.count(2), 1);
        is("errors: history", x.count(4), 1);
        is("errors: pad", x.count(3), 3);
        is("errors: room", x.count(0), 32);
    }
}
