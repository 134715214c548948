/** Long mixed runs of calls on new objects, each answer held against the one of the Model. */
public final class ModelTest {
    private static final int RUNS = 2000;
    // An object answers 512 calls; the look at all takes up to 360 of them, and a step before it up to 32.
    private static final int CALLS = 512, CALLS_BEFORE_ALL = 512 - 360, MOST_STEP = 32;
    private static final String[] HEADS = {"0", "0", "d", "u", "f", "(", "("};

    private static final Due due = new Due();
    // A written row of numbers, so that each test run is the same one.
    private static long state = 0;
    private static BlockTrees trees;
    private static Model model;
    private static String run;

    public static void main(String[] args) {
        for (int number = 0; number < RUNS && !due.isWrong(); number++) {
            state = number * 7919L + 1;
            run = "run " + number + ": ";
            trees = new BlockTrees();
            model = new Model();
            boolean looksAtAll = below(2) == 0;
            long end = due.checks() + (looksAtAll ? CALLS_BEFORE_ALL : CALLS) - MOST_STEP;
            while (due.checks() < end && !due.isWrong()) {
                change();
                look();
            }
            if (looksAtAll) {
                lookAtAll(below(4));
            }
        }
        due.finish();
    }

    private static int below(int bound) {
        state = state * 6364136223846793005L + 1442695040888963407L;
        return (int) ((state >>> 33) % bound);
    }

    private static int oneOf(int... numbers) {
        return numbers[below(numbers.length)];
    }

    private static int matrix() {
        return below(40) == 0 ? oneOf(-1, 4, Integer.MIN_VALUE, Integer.MAX_VALUE) : below(below(2) == 0 ? 2 : 4);
    }

    private static int place() {
        return below(60) == 0 ? oneOf(-1, 16, Integer.MIN_VALUE, Integer.MAX_VALUE) : below(below(2) == 0 ? 4 : 16);
    }

    private static int value() {
        switch (below(8)) {
            case 0:
                return oneOf(1000000, -1000000, 999999, -999999);
            case 1:
                return below(9) > 0 ? below(2001) - 1000
                        : oneOf(1000001, -1000001, Integer.MAX_VALUE, Integer.MIN_VALUE);
            default:
                return below(5) - 2;
        }
    }

    private static int times() {
        switch (below(6)) {
            case 0:
                return oneOf(99, -99, 0, 100, -100, 98, Integer.MIN_VALUE, Integer.MAX_VALUE);
            case 1:
                return below(199) - 99;
            default:
                return oneOf(1, -1, 2, -2);
        }
    }

    private static void is(String call, long got, long want) {
        due.is(run + call, got, want);
    }

    private static void change() {
        int m = matrix();
        int n = matrix();
        int r = place();
        int c = place();
        int x = value();
        int t = times();
        int s = below(20) == 0 ? oneOf(-1, 2) : below(2);
        switch (below(17)) {
            case 0: case 1: case 2: case 3:
                is("entry", trees.entry(m, r, c, x), model.entry(m, r, c, x));
                break;
            case 4: case 5:
                is("shrink", trees.shrink(m), model.shrink(m));
                break;
            case 6: case 7:
                is("add", trees.add(m, n, t), model.add(m, n, t));
                break;
            case 8:
                is("turn", trees.turn(m), model.turn(m));
                break;
            case 9:
                is("copy", trees.copy(m, n), model.copy(m, n));
                break;
            case 10:
                is("clear", trees.clear(m, r, c), model.clear(m, r, c));
                break;
            case 11:
                is("undo", trees.undo(), model.undo());
                break;
            case 12:
                is("save", trees.save(s), model.save(s));
                is("restore", trees.restore(s), model.restore(s));
                break;
            case 13:
                is("restore", trees.restore(s), model.restore(s));
                break;
            default:
                is("wipe", trees.wipe(), model.wipe());
                text();
                is("fault " + model.pad, trees.fault(), model.fault());
                is("tell " + model.pad, trees.tell(m), model.tell(m));
        }
    }

    // ---- texts, most of them without a fault

    private static void text() {
        StringBuilder text = new StringBuilder();
        block(text, 0);
        if (below(4) == 0) {
            spoil(text);
        }
        text.setLength(Math.min(text.length(), 90));
        int least = text.length() < 12 ? 1 : 5;
        for (int i = 0; i < text.length(); ) {
            int end = Math.min(text.length(), i + least + below(9 - least));
            long number = Due.number(text.substring(i, end));
            is("put", trees.put(number), model.put(number));
            i = end;
        }
        if (below(10) == 0) {
            long number = (long) below(1 << 30) << oneOf(0, 8, 34) | below(256);
            is("put " + number, trees.put(number), model.put(number));
        }
    }

    private static void block(StringBuilder text, int depth) {
        String head = HEADS[below(depth == 3 && below(30) > 0 ? 5 : 7)];
        text.append(head);
        switch (head) {
            case "d":
                number(text);
                break;
            case "u":
                numbers(text);
                text.append("v");
                numbers(text);
                break;
            case "f":
                numbers(text);
                break;
            case "(":
                for (int part = 0; part < 4; part++) {
                    block(text, depth < 4 ? depth + 1 : 3);
                }
                text.append(")");
                break;
            default:
        }
    }

    private static void numbers(StringBuilder text) {
        number(text);
        while (below(3) > 0) {
            text.append(",");
            number(text);
        }
    }

    private static void number(StringBuilder text) {
        text.append(below(4) == 0 ? "-" : "").append(below(8) == 0 ? below(1000) : below(3));
    }

    private static void spoil(StringBuilder text) {
        int index = below(text.length());
        char sign = "0123456789,-duvf()x~!".charAt(below(21));
        switch (below(4)) {
            case 0:
                text.insert(index, sign);
                break;
            case 1:
                text.deleteCharAt(index);
                break;
            case 2:
                text.setCharAt(index, sign);
                break;
            default:
                text.setLength(index);
        }
    }

    // ---- answers that change nothing

    private static void look() {
        int m = matrix();
        int n = matrix();
        int r = place();
        int c = place();
        int what = below(14) - 1;
        int size = oneOf(2, 2, 4, 4, 8, 16, 3, 0, 1, 32, -2);
        int a = below(10) == 0 ? oneOf(9999, -9999, 10000, -10000) : below(19999) - 9999;
        int b = below(10) == 0 ? oneOf(999, -999, 1000, -1000) : below(1999) - 999;
        is("at", trees.at(m, r, c), model.at(m, r, c));
        is("block " + what, trees.block(m, r, c, what), model.block(m, r, c, what));
        is("of " + what, trees.of(m, what), model.of(m, what));
        is("product", trees.product(m, r, a, b), model.product(m, r, a, b));
        is("count " + what, trees.count(what), model.count(what));
        is("isOne", trees.isOne(m, r, c, size), model.isOne(m, r, c, size));
        switch (below(5)) {
            case 0:
                is("far", trees.far(m, n), model.far(m, n));
                break;
            case 1:
                is("wouldTake", trees.wouldTake(m), model.wouldTake(m));
                break;
            case 2:
                is("mean", trees.mean(m), model.mean(m));
                break;
            case 3:
                is("share", trees.share(m), model.share(m));
                break;
            default:
                int which = below(4) - 1;
                is("bestTimes", trees.bestTimes(m, n, which), model.bestTimes(m, n, which));
        }
    }

    private static void lookAtAll(int m) {
        for (int cell = 0; cell < 256; cell++) {
            int r = cell / 16;
            int c = cell % 16;
            is("at the end", trees.at(m, r, c), model.at(m, r, c));
        }
        for (int what = 0; what < 11; what++) {
            is("of at the end", trees.of(m, what), model.of(m, what));
        }
        for (int what = 0; what < 5; what++) {
            is("count at the end", trees.count(what), model.count(what));
        }
        for (int size = 2; size <= 16; size *= 2) {
            for (int cell = 0; cell < 256 / size / size; cell++) {
                int r = cell / (16 / size) * size;
                int c = cell % (16 / size) * size;
                is("isOne at the end", trees.isOne(m, r, c, size), model.isOne(m, r, c, size));
            }
        }
    }
}
