/** What the tests share: the counting of answers that are not due, and texts as numbers for put(). */
final class Due {
    private int checks = 0;
    private int wrong = 0;

    void is(String call, long got, long want) {
        checks++;
        if (got != want) {
            wrong++;
            System.out.println(call + " answered " + got + ", due is " + want);
        }
    }

    void holds(String what, boolean held) {
        is(what, held ? 1 : 0, 1);
    }

    int checks() {
        return checks;
    }

    boolean isWrong() {
        return wrong > 0;
    }

    void finish() {
        System.out.println(checks + " answers, " + wrong + " not as due");
        if (wrong > 0) {
            System.exit(1);
        }
    }

    /** Up to 8 characters as put() takes them. */
    static long number(String text) {
        long number = 0;
        for (int i = 0; i < text.length(); i++) {
            number = number << 8 | text.charAt(i);
        }
        return number;
    }

    /** Appends the text to the pad. */
    static void put(BlockTrees trees, String text) {
        for (int i = 0; i < text.length(); i += 8) {
            trees.put(number(text.substring(i, Math.min(text.length(), i + 8))));
        }
    }

    /** The text becomes the matrix; what stood on the pad is wiped. */
    static int tell(BlockTrees trees, int matrix, String text) {
        trees.wipe();
        put(trees, text);
        return trees.tell(matrix);
    }

    /** A new object whose matrices, from 0 on, are what these texts tell. */
    static BlockTrees told(String... texts) {
        BlockTrees trees = new BlockTrees();
        for (int matrix = 0; matrix < texts.length; matrix++) {
            if (tell(trees, matrix, texts[matrix]) < 0) {
                throw new IllegalStateException("a test's text has a fault: " + texts[matrix]);
            }
        }
        return trees;
    }

    /** Each entry of the matrix becomes 1000000 or, if the sign is -1, -1000000; the matrix 3 is used up for it. */
    static void fill(BlockTrees trees, int matrix, int sign) {
        tell(trees, matrix, "u999v" + 999 * sign);
        tell(trees, 3, "d999");
        trees.add(matrix, 3, 99 * sign);
    }

    static int fault(BlockTrees trees, String text) {
        trees.wipe();
        put(trees, text);
        return trees.fault();
    }
}
