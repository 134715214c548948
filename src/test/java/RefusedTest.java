import java.util.ArrayList;
import java.util.List;

/**
 * "A call that returns an error changes nothing", and "the first one that applies is returned". Of two objects with
 * the same calls one more call is refused (or asks what changes nothing): then all that can be asked of both is asked.
 */
public final class RefusedTest {
    private static final int NO_SUCH = BlockTrees.NO_SUCH;
    private static final int BAD_VALUE = BlockTrees.BAD_VALUE;
    private static final int MIN = Integer.MIN_VALUE;
    private static final int MAX = Integer.MAX_VALUE;

    private static final Due due = new Due();

    private interface Call {
        long on(BlockTrees x);
    }

    private interface Look {
        void at(BlockTrees x, List<Long> answers);
    }

    /** A call, and what it is to answer. */
    private static final class Refused {
        private final String name;
        private final long error;
        private final Call call;

        Refused(String name, long error, Call call) {
            this.name = name;
            this.error = error;
            this.call = call;
        }
    }

    private static final List<Refused> CALLS = new ArrayList<>();
    private static final List<Look> LOOKS = new ArrayList<>();

    public static void main(String[] args) {
        for (int m : new int[] {-1, 4, MIN, MAX}) {
            noMatrix(m);
        }
        for (int place : new int[] {-1, 16, MIN, MAX}) {
            noPlace(place);
        }
        badValues();
        twoErrorsAtOnce();
        whatChangesNothing();
        looks();
        for (int before = 0; before < 5; before++) {
            check(before, CALLS);
            check(before, callsOf(before));
        }
        due.finish();
    }

    private static void refused(String name, long error, Call call) {
        CALLS.add(new Refused(name, error, call));
    }

    // ---- the calls

    private static void noMatrix(int m) {
        refused("tell " + m, NO_SUCH, x -> x.tell(m));
        refused("entry " + m, NO_SUCH, x -> x.entry(m, 0, 0, 1));
        refused("shrink " + m, NO_SUCH, x -> x.shrink(m));
        refused("add " + m, NO_SUCH, x -> x.add(m, 1, 1));
        refused("add other " + m, NO_SUCH, x -> x.add(1, m, 1));
        refused("turn " + m, NO_SUCH, x -> x.turn(m));
        refused("copy " + m, NO_SUCH, x -> x.copy(m, 1));
        refused("copy from " + m, NO_SUCH, x -> x.copy(1, m));
        refused("clear " + m, NO_SUCH, x -> x.clear(m, 0, 0));
        refused("at " + m, NO_SUCH, x -> x.at(m, 0, 0));
        refused("block " + m, NO_SUCH, x -> x.block(m, 0, 0, 0));
        refused("of " + m, NO_SUCH, x -> x.of(m, 0));
        refused("product " + m, -1000000000000L, x -> x.product(m, 0, 1, 1));
        refused("mean " + m, 0, x -> x.mean(m));
        refused("share " + m, NO_SUCH, x -> x.share(m));
        refused("far " + m, NO_SUCH, x -> x.far(m, 1));
        refused("far other " + m, NO_SUCH, x -> x.far(1, m));
        refused("wouldTake " + m, NO_SUCH, x -> x.wouldTake(m));
        refused("isOne " + m, NO_SUCH, x -> x.isOne(m, 0, 0, 2));
        refused("bestTimes " + m, NO_SUCH, x -> x.bestTimes(m, 1, 0));
        refused("bestTimes other " + m, NO_SUCH, x -> x.bestTimes(1, m, 0));
    }

    private static void noPlace(int place) {
        refused("entry row " + place, NO_SUCH, x -> x.entry(0, place, 0, 1));
        refused("entry column " + place, NO_SUCH, x -> x.entry(0, 0, place, 1));
        refused("clear row " + place, NO_SUCH, x -> x.clear(0, place, 0));
        refused("clear column " + place, NO_SUCH, x -> x.clear(0, 0, place));
        refused("at row " + place, NO_SUCH, x -> x.at(0, place, 0));
        refused("at column " + place, NO_SUCH, x -> x.at(0, 0, place));
        refused("block row " + place, NO_SUCH, x -> x.block(0, place, 0, 0));
        refused("block column " + place, NO_SUCH, x -> x.block(0, 0, place, 0));
        refused("product row " + place, -1000000000000L, x -> x.product(0, place, 1, 1));
        refused("isOne row " + place, BAD_VALUE, x -> x.isOne(0, place, 0, 2));
        refused("isOne column " + place, BAD_VALUE, x -> x.isOne(0, 0, place, 2));
    }

    private static void badValues() {
        for (int value : new int[] {1000001, -1000001, MIN, MAX}) {
            refused("entry value " + value, BAD_VALUE, x -> x.entry(0, 0, 0, value));
        }
        for (int times : new int[] {0, 100, -100, MIN, MAX}) {
            refused("add times " + times, BAD_VALUE, x -> x.add(0, 1, times));
        }
        for (int m = 0; m < 4; m++) {
            int same = m;
            refused("add both " + m, BAD_VALUE, x -> x.add(same, same, 1));
            refused("copy both " + m, BAD_VALUE, x -> x.copy(same, same));
            refused("bestTimes both " + m, BAD_VALUE, x -> x.bestTimes(same, same, 1));
        }
        for (int wrong : new int[] {-1, 11, 12, MIN, MAX}) {
            refused("of what " + wrong, BAD_VALUE, x -> x.of(0, wrong));
            refused("block what " + wrong, BAD_VALUE, x -> x.block(0, 0, 0, wrong));
            refused("count what " + wrong, BAD_VALUE, x -> x.count(wrong));
            refused("bestTimes what " + wrong, BAD_VALUE, x -> x.bestTimes(0, 1, wrong));
            refused("isOne size " + wrong, BAD_VALUE, x -> x.isOne(0, 0, 0, wrong));
            refused("save " + wrong, BAD_VALUE, x -> x.save(wrong));
            refused("restore " + wrong, BAD_VALUE, x -> x.restore(wrong));
        }
        refused("block what 6", BAD_VALUE, x -> x.block(0, 0, 0, 6));
        refused("count what 5", BAD_VALUE, x -> x.count(5));
        refused("bestTimes what 2", BAD_VALUE, x -> x.bestTimes(0, 1, 2));
        refused("save 2", BAD_VALUE, x -> x.save(2));
        refused("restore 2", BAD_VALUE, x -> x.restore(2));
        refused("isOne no multiple", BAD_VALUE, x -> x.isOne(0, 2, 0, 4));
        refused("isOne beyond", BAD_VALUE, x -> x.isOne(0, 16, 16, 16));
        refused("product a", -1000000000000L, x -> x.product(0, 0, 10000, 0));
        refused("product b", -1000000000000L, x -> x.product(0, 0, 0, -1000));
        long[] characters = {0, 32, 127, -1, 'd' << 8, 'd' | 1L << 16, 'd' | 1L << 63, 31 | 'd' << 8, 'd' | 127 << 8,
            Due.number("d1d2d3d4") | 1L << 63, Long.MIN_VALUE};
        for (long wrong : characters) {
            refused("put " + wrong, BAD_VALUE, x -> x.put(wrong));
        }
    }

    private static void twoErrorsAtOnce() {
        refused("entry, matrix and value", NO_SUCH, x -> x.entry(4, 0, 0, 1000001));
        refused("entry, row and value", NO_SUCH, x -> x.entry(0, 16, 0, 1000001));
        refused("entry, column and value", NO_SUCH, x -> x.entry(0, 0, -1, -1000001));
        refused("add, matrix and times", NO_SUCH, x -> x.add(4, 0, 0));
        refused("add, other and times", NO_SUCH, x -> x.add(0, 4, 100));
        refused("add, both the same one that is not", NO_SUCH, x -> x.add(4, 4, 1));
        refused("add, times and both the same", BAD_VALUE, x -> x.add(1, 1, 0));
        refused("copy, both the same one that is not", NO_SUCH, x -> x.copy(-1, -1));
        refused("block, matrix and what", NO_SUCH, x -> x.block(4, 0, 0, 6));
        refused("block, row and what", NO_SUCH, x -> x.block(0, 16, 0, -1));
        refused("block, column and what", NO_SUCH, x -> x.block(0, 0, 16, 6));
        refused("of, matrix and what", NO_SUCH, x -> x.of(4, 11));
        refused("isOne, matrix and size", NO_SUCH, x -> x.isOne(4, 0, 0, 3));
        refused("isOne, matrix and row", NO_SUCH, x -> x.isOne(-1, 1, 0, 2));
        refused("isOne, matrix and column", NO_SUCH, x -> x.isOne(4, 0, 16, 2));
        refused("isOne, size and row", BAD_VALUE, x -> x.isOne(0, 16, 0, 0));
        refused("isOne, row and column of no size", BAD_VALUE, x -> x.isOne(0, MIN, MIN, MIN));
        refused("bestTimes, matrix and what", NO_SUCH, x -> x.bestTimes(4, 0, 2));
        refused("bestTimes, other and what", NO_SUCH, x -> x.bestTimes(0, 4, -1));
        refused("bestTimes, both the same one that is not", NO_SUCH, x -> x.bestTimes(4, 4, 0));
        refused("bestTimes, what and both the same", BAD_VALUE, x -> x.bestTimes(1, 1, 2));
        refused("far, both the same one that is not", NO_SUCH, x -> x.far(4, 4));
        refused("product, all", -1000000000000L, x -> x.product(4, 16, 10000, 1000));
    }

    // "what there is", "what if; nothing changes": calls that are not refused, and change nothing either.
    private static void whatChangesNothing() {
        long any = MAX + 1L;
        for (int m = 0; m < 4; m++) {
            int n = m;
            refused("at " + m, any, x -> x.at(n, 9, 9));
            refused("product " + m, any, x -> x.product(n, 9, 5, -3));
            refused("mean " + m, any, x -> x.mean(n));
            refused("share " + m, any, x -> x.share(n));
            refused("wouldTake " + m, any, x -> x.wouldTake(n));
            refused("far " + m, any, x -> x.far(n, 1));
            refused("isOne " + m, any, x -> x.isOne(n, 0, 0, 16));
            refused("bestTimes " + m, any, x -> x.bestTimes(n, (n + 1) % 4, 0));
            refused("bestTimes " + m, any, x -> x.bestTimes(n, (n + 3) % 4, 1));
            for (int what = 0; what <= 10; what++) {
                int number = what;
                refused("of " + m, any, x -> x.of(n, number));
                refused("block " + m, any, x -> x.block(n, 9, 9, number % 6));
                refused("count " + m, any, x -> x.count(number % 5));
            }
        }
        refused("fault", any, x -> x.fault());
    }

    // ---- the objects before the call

    private static BlockTrees object(int before) {
        BlockTrees x = new BlockTrees();
        if (before == 0) {
            return x;
        }
        x.shrink(2);
        Due.tell(x, 0, "((f1,-2,5d1u1,2v3,4,0(0000))f1,2,3d5(000d9))");
        x.save(0);
        Due.tell(x, 1, "(u1,2v3f7,8,9,0d4d0)");
        if (before == 1) {
            return x;
        }
        x.turn(1);
        x.entry(2, 9, 14, -1000000);
        x.add(3, 1, 99);
        x.entry(0, 1, 1, 1000000);
        x.entry(3, 1, 1, 1000000);
        x.undo();
        x.clear(3, 9, 9);
        x.shrink(1);
        x.entry(3, 5, 6, 77);
        String[] texts = {"", "", "(d7f8,9u1,2v3,4,00)", "(d7f8,9u1,2v3,4,x", "f1" + ",2".repeat(39)};
        Due.put(x, texts[before]);
        return x;
    }

    /** Calls that are refused in this state alone. */
    private static List<Refused> callsOf(int before) {
        List<Refused> calls = new ArrayList<>();
        calls.add(new Refused("restore 1", BlockTrees.NOT_POSSIBLE, x -> x.restore(1)));
        if (before == 0) {
            calls.add(new Refused("undo", BlockTrees.NOT_POSSIBLE, x -> x.undo()));
            calls.add(new Refused("restore 0", BlockTrees.NOT_POSSIBLE, x -> x.restore(0)));
        }
        for (int m = 0; m < 4 && before != 2 && before != 4; m++) {
            int n = m;
            calls.add(new Refused("tell " + m, BlockTrees.BAD_TEXT, x -> x.tell(n)));
        }
        if (before == 4) {
            calls.add(new Refused("put one", BlockTrees.TOO_MANY, x -> x.put('0')));
            calls.add(new Refused("put eight", BlockTrees.TOO_MANY, x -> x.put(Due.number("12345678"))));
        }
        return calls;
    }

    // ---- all that can be asked, in parts of less than 512 calls

    private static void looks() {
        for (int matrix = 0; matrix < 4; matrix++) {
            int m = matrix;
            LOOKS.add((x, answers) -> entries(x, m, answers));
            LOOKS.add((x, answers) -> {
                for (int block = 0; block < 64; block++) {
                    for (int what = 0; what < 6; what++) {
                        answers.add((long) x.block(m, block / 8 * 2, block % 8 * 2, what));
                    }
                }
            });
        }
        LOOKS.add((x, answers) -> {
            all(x, answers);
            for (int left = 0; left <= 6; left++) {
                answers.add((long) x.undo());
                all(x, answers);
            }
        });
        LOOKS.add((x, answers) -> {
            for (int slot = 0; slot < 3; slot++) {
                answers.add((long) x.restore(slot));
                all(x, answers);
            }
        });
        LOOKS.add((x, answers) -> {
            answers.add((long) x.tell(2));
            entries(x, 2, answers);
            answers.add((long) x.put(Due.number("d1")));
            answers.add((long) x.fault());
        });
        LOOKS.add((x, answers) -> {
            answers.add((long) x.put(Due.number("0)")));
            answers.add((long) x.fault());
            answers.add((long) x.wipe());
        });
        LOOKS.add((x, answers) -> {
            answers.add((long) x.entry(3, 3, 3, 3));
            all(x, answers);
            answers.add((long) x.undo());
            all(x, answers);
        });
    }

    private static void entries(BlockTrees x, int m, List<Long> answers) {
        for (int cell = 0; cell < 256; cell++) {
            answers.add((long) x.at(m, cell / 16, cell % 16));
        }
    }

    private static void all(BlockTrees x, List<Long> answers) {
        for (int what = 0; what < 5; what++) {
            answers.add((long) x.count(what));
        }
        answers.add((long) x.fault());
        for (int m = 0; m < 4; m++) {
            for (int what = 0; what <= 10; what++) {
                answers.add((long) x.of(m, what));
            }
            answers.add(x.mean(m));
        }
    }

    private static void check(int before, List<Refused> calls) {
        for (int part = 0; part < LOOKS.size(); part++) {
            List<Long> wanted = new ArrayList<>();
            LOOKS.get(part).at(object(before), wanted);
            for (Refused refused : calls) {
                String name = refused.name + " in the state " + before;
                BlockTrees x = object(before);
                long answer = refused.call.on(x);
                if (refused.error <= MAX) {
                    due.is(name, answer, refused.error);
                }
                List<Long> answers = new ArrayList<>();
                LOOKS.get(part).at(x, answers);
                due.holds("nothing is different after " + name + ", part " + part, answers.equals(wanted));
            }
        }
    }
}
