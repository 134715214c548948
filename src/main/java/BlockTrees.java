/**
 * Four matrices of 16 rows and 16 columns, each of them a tree of blocks that are EMPTY, FULL, THIN or CUT.
 * The numbered promises that this class keeps stand in ../shared/DOC.md.
 */
public final class BlockTrees {
    public static final int NO_SUCH = -1, BAD_VALUE = -2, BAD_TEXT = -3, TOO_MANY = -4, NOT_POSSIBLE = -5, NONE = -6;
    public static final int EMPTY = 0, FULL = 1, THIN = 2, CUT = 3;

    private static final int MATRICES = 4, SLOTS = 2, HISTORY = 6, PAD = 80;
    private static final int SIDE = 16, SIDE_BITS = 4, CELLS = SIDE * SIDE, PARTS = 4;
    // Blocks of the size 2 are the deepest ones; 1 + 4 + 16 + 64 blocks can stand in a matrix.
    private static final int DEEPEST = 3, BLOCKS = 85;
    private static final int MOST_ENTRY = 1000000, MOST_TIMES = 99, MOST_A = 9999, MOST_B = 999, MOST_NUMBER = 999;
    private static final int TRACE_SHIFT = 100000000;
    private static final long NO_PRODUCT = -1000000000000L;
    private static final int NOT_ONE = 0, ONE = 1, ALL_ZERO = 2;
    private static final long SIGN_BIT = 1L << 63;
    private static final int MOST_SIGNS = 8, CHARACTER_BITS = 8, CHARACTER_MASK = 255, FIRST_SIGN = 33, LAST_SIGN = 126;

    private final State now = new State();
    private final History history = new History();
    private final Slot[] slots = new Slot[SLOTS];
    private final Pad pad = new Pad();
    // Rows that calls use again, so that no call makes an object.
    private final Matrix draft = new Matrix();
    private final int[] zeros = new int[2 * MOST_TIMES + 1];

    public BlockTrees() {
        for (int slot = 0; slot < SLOTS; slot++) {
            slots[slot] = new Slot();
        }
    }

    // ---- changes

    public int tell(int matrix) {
        if (!isMatrix(matrix)) {
            return NO_SUCH;
        }
        if (!pad.read()) {
            return BAD_TEXT;
        }
        beginChange();
        now.matrices[matrix].become(pad.told);
        pad.length = 0;
        return now.matrices[matrix].room();
    }

    public int entry(int matrix, int row, int column, int value) {
        if (!isPlace(matrix, row, column)) {
            return NO_SUCH;
        }
        if (!isWithin(value, MOST_ENTRY)) {
            return BAD_VALUE;
        }
        int previous = now.matrices[matrix].entryAt(row, column);
        beginChange();
        now.matrices[matrix].changeEntry(row, column, value);
        return previous + MOST_ENTRY;
    }

    public int shrink(int matrix) {
        if (!isMatrix(matrix)) {
            return NO_SUCH;
        }
        beginChange();
        int previous = now.matrices[matrix].room();
        return previous - now.matrices[matrix].makeSmaller();
    }

    public int add(int matrix, int other, int times) {
        if (!isMatrix(matrix) || !isMatrix(other)) {
            return NO_SUCH;
        }
        if (times == 0 || !isWithin(times, MOST_TIMES) || matrix == other) {
            return BAD_VALUE;
        }
        beginChange();
        now.matrices[matrix].join(now.matrices[other], times);
        return now.matrices[matrix].room();
    }

    public int turn(int matrix) {
        if (!isMatrix(matrix)) {
            return NO_SUCH;
        }
        beginChange();
        now.matrices[matrix].transpose();
        return now.matrices[matrix].trace() + TRACE_SHIFT;
    }

    public int copy(int matrix, int from) {
        if (!isMatrix(matrix) || !isMatrix(from)) {
            return NO_SUCH;
        }
        if (matrix == from) {
            return BAD_VALUE;
        }
        beginChange();
        now.matrices[matrix].become(now.matrices[from]);
        return now.matrices[matrix].room();
    }

    public int clear(int matrix, int row, int column) {
        if (!isPlace(matrix, row, column)) {
            return NO_SUCH;
        }
        beginChange();
        return now.matrices[matrix].emptyBlockOf(row, column);
    }

    // ---- what there is

    public int at(int matrix, int row, int column) {
        if (!isPlace(matrix, row, column)) {
            return NO_SUCH;
        }
        return now.matrices[matrix].entryAt(row, column) + MOST_ENTRY;
    }

    public int block(int matrix, int row, int column, int what) {
        if (!isPlace(matrix, row, column)) {
            return NO_SUCH;
        }
        Matrix m = now.matrices[matrix];
        int depth = m.depthOf(row, column);
        int size = sizeAt(depth);
        switch (what) {
            case 0:
                return m.sortOf(depth, row, column);
            case 1:
                return size;
            case 2:
                return firstOf(depth, row);
            case 3:
                return firstOf(depth, column);
            case 4:
                return roomOfUncut(m.sortOf(depth, row, column), size);
            case 5:
                return depth;
            default:
                return BAD_VALUE;
        }
    }

    public int of(int matrix, int what) {
        if (!isMatrix(matrix)) {
            return NO_SUCH;
        }
        Matrix m = now.matrices[matrix];
        switch (what) {
            case 0:
                return m.room();
            case 1:
                return m.deepest();
            case 2:
                return m.blocksOf(EMPTY);
            case 3:
                return m.blocksOf(FULL);
            case 4:
                return m.blocksOf(THIN);
            case 5:
                return m.blocksOf(CUT);
            case 6:
                return m.filledEntries();
            case 7:
                return m.trace() + TRACE_SHIFT;
            case 8:
                return m.greatest() + MOST_ENTRY;
            case 9:
                return m.least() + MOST_ENTRY;
            case 10:
                return m.isItsTurned() ? 1 : 0;
            default:
                return BAD_VALUE;
        }
    }

    public long product(int matrix, int row, int a, int b) {
        if (!isPlace(matrix, row, 0) || !isWithin(a, MOST_A) || !isWithin(b, MOST_B)) {
            return NO_PRODUCT;
        }
        long sum = 0;
        for (int column = 0; column < SIDE; column++) {
            sum += (long) now.matrices[matrix].entryAt(row, column) * (a + b * column);
        }
        return sum;
    }

    public long mean(int matrix) {
        if (!isMatrix(matrix)) {
            return 0;
        }
        return bitsOfPart(now.matrices[matrix].sum(), 52, 1023);
    }

    public int share(int matrix) {
        if (!isMatrix(matrix)) {
            return NO_SUCH;
        }
        return (int) bitsOfPart(now.matrices[matrix].room(), 23, 127);
    }

    public int count(int what) {
        switch (what) {
            case 0:
                return now.room();
            case 1:
                return now.emptyOnes();
            case 2:
                return now.changes;
            case 3:
                return pad.length;
            case 4:
                return history.length;
            default:
                return BAD_VALUE;
        }
    }

    // ---- what if; nothing changes

    public int far(int one, int other) {
        if (!isMatrix(one) || !isMatrix(other)) {
            return NO_SUCH;
        }
        return now.matrices[one].greatestDifference(now.matrices[other]);
    }

    public int wouldTake(int matrix) {
        if (!isMatrix(matrix)) {
            return NO_SUCH;
        }
        draft.become(now.matrices[matrix]);
        return draft.makeSmaller();
    }

    public int isOne(int matrix, int row, int column, int size) {
        if (!isMatrix(matrix)) {
            return NO_SUCH;
        }
        if (size != 2 && size != 4 && size != 8 && size != 16) {
            return BAD_VALUE;
        }
        if (!isSquareEdge(row, size) || !isSquareEdge(column, size)) {
            return BAD_VALUE;
        }
        return now.matrices[matrix].toldByOne(row, column, size);
    }

    public int bestTimes(int matrix, int other, int what) {
        if (!isMatrix(matrix) || !isMatrix(other)) {
            return NO_SUCH;
        }
        if ((what != 0 && what != 1) || matrix == other) {
            return BAD_VALUE;
        }
        countZeros(now.matrices[matrix], now.matrices[other]);
        int best = -MOST_TIMES;
        for (int times = -MOST_TIMES; times <= MOST_TIMES; times++) {
            if (times != 0 && zeros[times + MOST_TIMES] > zeros[best + MOST_TIMES]) {
                best = times;
            }
        }
        return what == 0 ? best + MOST_TIMES + 1 : zeros[best + MOST_TIMES];
    }

    // ---- texts

    public int put(long characters) {
        int signs = signsIn(characters);
        if (signs == 0) {
            return BAD_VALUE;
        }
        if (signs > PAD - pad.length) {
            return TOO_MANY;
        }
        for (int sign = signs - 1; sign >= 0; sign--) {
            pad.append((char) (characters >>> (sign * CHARACTER_BITS) & CHARACTER_MASK));
        }
        return pad.length;
    }

    public int wipe() {
        int previous = pad.length;
        pad.length = 0;
        return previous;
    }

    public int fault() {
        return pad.read() ? NONE : pad.position;
    }

    // ---- undo, saving

    public int undo() {
        if (history.length == 0) {
            return NOT_POSSIBLE;
        }
        history.takeBack(now);
        return history.length;
    }

    public int save(int slot) {
        if (!isSlot(slot)) {
            return BAD_VALUE;
        }
        slots[slot].state.become(now);
        slots[slot].isSaved = true;
        return now.room();
    }

    public int restore(int slot) {
        if (!isSlot(slot)) {
            return BAD_VALUE;
        }
        if (!slots[slot].isSaved) {
            return NOT_POSSIBLE;
        }
        // Not beginChange(): a restore is kept in the history, but it brings its own number of changes.
        history.keep(now);
        now.become(slots[slot].state);
        return now.room();
    }

    // ---- what the calls above share

    private void beginChange() {
        history.keep(now);
        now.changes++;
    }

    private static boolean isMatrix(int matrix) {
        return matrix >= 0 && matrix < MATRICES;
    }

    private static boolean isSlot(int slot) {
        return slot >= 0 && slot < SLOTS;
    }

    private static boolean isPlace(int matrix, int row, int column) {
        return isMatrix(matrix) && row >= 0 && row < SIDE && column >= 0 && column < SIDE;
    }

    private static boolean isWithin(int number, int most) {
        return number >= -most && number <= most;
    }

    /** Whether a square of this size can begin in this row (or column) of a matrix. */
    private static boolean isSquareEdge(int edge, int size) {
        // Not edge + size <= SIDE: that would wrap around for the greatest numbers.
        return size > 0 && edge >= 0 && edge <= SIDE - size && edge % size == 0;
    }

    private static int sizeAt(int depth) {
        return SIDE >> depth;
    }

    /** The first row (or column) of the block of this depth that has this row (or column). */
    private static int firstOf(int depth, int edge) {
        return edge & -sizeAt(depth);
    }

    private static int roomOfUncut(int sort, int size) {
        if (sort == FULL) {
            return size * size;
        }
        return sort == THIN ? 2 * size : 0;
    }

    /**
     * The bits of number / 256 as a floating point number with so many places behind its first bit. The language
     * of this file has no doubleToLongBits; a quotient by 256 is exact, so its bits can be put together.
     */
    private static long bitsOfPart(int number, int places, int bias) {
        if (number == 0) {
            return 0;
        }
        long size = Math.abs((long) number);
        int top = highestBit(size);
        long exponent = top - 8 + bias;
        long behind = (size << (places - top)) - (1L << places);
        long bits = (exponent << places) + behind;
        return number < 0 ? bits | SIGN_BIT : bits;
    }

    /** The place of the highest bit that is 1 of a number that is above 0. */
    private static int highestBit(long number) {
        int top = 0;
        while (top < 62 && number >> (top + 1) > 0) {
            top++;
        }
        return top;
    }

    /** How many characters stand in the number; 0 if they may not be put. */
    private static int signsIn(long characters) {
        long rest = characters;
        int signs = 0;
        while (rest != 0 && signs < MOST_SIGNS) {
            long code = rest & CHARACTER_MASK;
            if (code < FIRST_SIGN || code > LAST_SIGN) {
                return 0;
            }
            rest >>>= CHARACTER_BITS;
            signs++;
        }
        return signs;
    }

    /** For each times: how many entries of the sum of add() would be 0 (which the bounds of sums do not alter). */
    private void countZeros(Matrix matrix, Matrix other) {
        int always = 0;
        for (int times = 0; times < zeros.length; times++) {
            zeros[times] = 0;
        }
        for (int cell = 0; cell < CELLS; cell++) {
            int mine = matrix.entries[cell];
            int theirs = other.entries[cell];
            if (theirs == 0) {
                always += mine == 0 ? 1 : 0;
            } else if (mine % theirs == 0 && isWithin(mine / theirs, MOST_TIMES)) {
                zeros[MOST_TIMES - mine / theirs]++;
            }
        }
        for (int times = 0; times < zeros.length; times++) {
            zeros[times] += always;
        }
    }

    /**
     * One matrix. Its entries stand in one table, whatever its blocks are: a THIN block's u and v can be seen by
     * their products alone, so these are kept instead. Entries of EMPTY blocks are 0 there.
     */
    private static final class Matrix {
        private final int[] entries = new int[CELLS];
        // Of blocks inside of a block that is not CUT nothing is known here: they are not there.
        private final int[] sorts = new int[BLOCKS];

        void become(Matrix other) {
            System.arraycopy(other.entries, 0, entries, 0, CELLS);
            System.arraycopy(other.sorts, 0, sorts, 0, BLOCKS);
        }

        private static int cellOf(int row, int column) {
            return row * SIDE + column;
        }

        /** Blocks are numbered depth by depth, and row by row in each. */
        private static int numberOf(int depth, int row, int column) {
            int bits = SIDE_BITS - depth;
            int before = ((1 << 2 * depth) - 1) / 3;
            return before + ((row >> bits) << depth) + (column >> bits);
        }

        private static int rowOfPart(int depth, int row, int part) {
            return row + part / 2 * sizeAt(depth + 1);
        }

        private static int columnOfPart(int depth, int column, int part) {
            return column + part % 2 * sizeAt(depth + 1);
        }

        int entryAt(int row, int column) {
            return entries[cellOf(row, column)];
        }

        int sortOf(int depth, int row, int column) {
            return sorts[numberOf(depth, row, column)];
        }

        private void setSort(int depth, int row, int column, int sort) {
            sorts[numberOf(depth, row, column)] = sort;
        }

        /** Each way down the tree asks this, and so ends at the deepest blocks. */
        private boolean isCut(int depth, int row, int column) {
            return depth < DEEPEST && sortOf(depth, row, column) == CUT;
        }

        /** How deep the block is that is not CUT and has this entry. */
        int depthOf(int row, int column) {
            int depth = 0;
            while (depth < DEEPEST && isCut(depth, row, column)) {
                depth++;
            }
            return depth;
        }

        int deepest() {
            int deepest = 0;
            for (int cell = 0; cell < CELLS; cell++) {
                deepest = Math.max(deepest, depthOf(cell / SIDE, cell % SIDE));
            }
            return deepest;
        }

        int room() {
            return roomFrom(0, 0, 0);
        }

        private int roomFrom(int depth, int row, int column) {
            if (!isCut(depth, row, column)) {
                return roomOfUncut(sortOf(depth, row, column), sizeAt(depth));
            }
            int room = 1;
            for (int part = 0; part < PARTS; part++) {
                room += roomFrom(depth + 1, rowOfPart(depth, row, part), columnOfPart(depth, column, part));
            }
            return room;
        }

        int blocksOf(int sort) {
            return blocksFrom(sort, 0, 0, 0);
        }

        private int blocksFrom(int sort, int depth, int row, int column) {
            int blocks = sortOf(depth, row, column) == sort ? 1 : 0;
            if (!isCut(depth, row, column)) {
                return blocks;
            }
            for (int part = 0; part < PARTS; part++) {
                blocks += blocksFrom(sort, depth + 1, rowOfPart(depth, row, part), columnOfPart(depth, column, part));
            }
            return blocks;
        }

        void changeEntry(int row, int column, int value) {
            for (int depth = 0; depth < DEEPEST; depth++) {
                if (!isCut(depth, row, column)) {
                    cutBlock(depth, row, column);
                }
            }
            setSort(DEEPEST, row, column, FULL);
            entries[cellOf(row, column)] = value;
        }

        private void cutBlock(int depth, int row, int column) {
            int firstRow = firstOf(depth, row);
            int firstColumn = firstOf(depth, column);
            int sort = sortOf(depth, row, column);
            for (int part = 0; part < PARTS; part++) {
                setSort(depth + 1, rowOfPart(depth, firstRow, part), columnOfPart(depth, firstColumn, part), sort);
            }
            setSort(depth, row, column, CUT);
        }

        /** Returns the size of the block. */
        int emptyBlockOf(int row, int column) {
            int depth = depthOf(row, column);
            setEmpty(depth, firstOf(depth, row), firstOf(depth, column));
            return sizeAt(depth);
        }

        void setEmpty(int depth, int row, int column) {
            setSort(depth, row, column, EMPTY);
            int size = sizeAt(depth);
            for (int i = 0; i < size; i++) {
                for (int j = 0; j < size; j++) {
                    entries[cellOf(row + i, column + j)] = 0;
                }
            }
        }

        void setThin(int depth, int row, int column, int[] u, int[] v) {
            setSort(depth, row, column, THIN);
            int size = sizeAt(depth);
            for (int i = 0; i < size && i < u.length; i++) {
                for (int j = 0; j < size && j < v.length; j++) {
                    entries[cellOf(row + i, column + j)] = u[i] * v[j];
                }
            }
        }

        void setFull(int depth, int row, int column, int[] values) {
            setSort(depth, row, column, FULL);
            int size = sizeAt(depth);
            for (int i = 0; i < size; i++) {
                for (int j = 0; j < size && i * size + j < values.length; j++) {
                    entries[cellOf(row + i, column + j)] = values[i * size + j];
                }
            }
        }

        /** Returns the room that is taken then. */
        int makeSmaller() {
            return makeSmallerFrom(0, 0, 0);
        }

        private int makeSmallerFrom(int depth, int row, int column) {
            int room = isCut(depth, row, column)
                    ? makePartsSmaller(depth, row, column)
                    : roomOfUncut(sortOf(depth, row, column), sizeAt(depth));
            int size = sizeAt(depth);
            int told = toldByOne(row, column, size);
            // Four parts that are made smaller are all EMPTY just if the entries of all are 0.
            if (told == ALL_ZERO) {
                setSort(depth, row, column, EMPTY);
                return 0;
            }
            // A FULL block never takes less room than a THIN one of its size, so this asks nothing of it.
            if (told == ONE && 2 * size <= room) {
                setSort(depth, row, column, THIN);
                return 2 * size;
            }
            return room;
        }

        private int makePartsSmaller(int depth, int row, int column) {
            int room = 1;
            for (int part = 0; part < PARTS; part++) {
                room += makeSmallerFrom(depth + 1, rowOfPart(depth, row, part), columnOfPart(depth, column, part));
            }
            return room;
        }

        /** Whether the entries of a square can be told by one product: ONE, NOT_ONE, or ALL_ZERO. */
        int toldByOne(int row, int column, int size) {
            int p = firstFilledRow(row, column, size);
            int q = firstFilledColumn(row, column, size);
            if (p < 0 || q < 0) {
                return ALL_ZERO;
            }
            long corner = entryAt(p, q);
            for (int i = row; i < row + size; i++) {
                for (int j = column; j < column + size; j++) {
                    if (entryAt(i, j) * corner != (long) entryAt(i, q) * entryAt(p, j)) {
                        return NOT_ONE;
                    }
                }
            }
            return ONE;
        }

        /** Returns -1 if the square has none. */
        private int firstFilledRow(int row, int column, int size) {
            for (int i = row; i < row + size; i++) {
                for (int j = column; j < column + size; j++) {
                    if (entries[cellOf(i, j)] != 0) {
                        return i;
                    }
                }
            }
            return -1;
        }

        /** Returns -1 if the square has none. */
        private int firstFilledColumn(int row, int column, int size) {
            for (int j = column; j < column + size; j++) {
                for (int i = row; i < row + size; i++) {
                    if (entries[cellOf(i, j)] != 0) {
                        return j;
                    }
                }
            }
            return -1;
        }

        /** Becomes the sum of itself and of the other one times a number. */
        void join(Matrix other, int times) {
            joinFrom(other, times, 0, 0, 0);
        }

        private void joinFrom(Matrix other, int times, int depth, int row, int column) {
            if (other.sortOf(depth, row, column) == EMPTY) {
                return;
            }
            if (!isCut(depth, row, column) || !other.isCut(depth, row, column)) {
                joinEntries(other, times, depth, row, column);
                return;
            }
            for (int part = 0; part < PARTS; part++) {
                joinFrom(other, times, depth + 1, rowOfPart(depth, row, part), columnOfPart(depth, column, part));
            }
        }

        private void joinEntries(Matrix other, int times, int depth, int row, int column) {
            setSort(depth, row, column, FULL);
            int size = sizeAt(depth);
            for (int i = 0; i < size; i++) {
                for (int j = 0; j < size; j++) {
                    int cell = cellOf(row + i, column + j);
                    int sum = entries[cell] + other.entries[cell] * times;
                    entries[cell] = Math.max(-MOST_ENTRY, Math.min(MOST_ENTRY, sum));
                }
            }
        }

        void transpose() {
            for (int row = 0; row < SIDE; row++) {
                for (int column = 0; column < row; column++) {
                    swap(entries, cellOf(row, column), cellOf(column, row));
                }
            }
            for (int depth = 0; depth <= DEEPEST; depth++) {
                transposeSorts(depth);
            }
        }

        private void transposeSorts(int depth) {
            int size = sizeAt(depth);
            for (int row = 0; row < SIDE; row += size) {
                for (int column = 0; column < row; column += size) {
                    swap(sorts, numberOf(depth, row, column), numberOf(depth, column, row));
                }
            }
        }

        private static void swap(int[] numbers, int one, int other) {
            int kept = numbers[one];
            numbers[one] = numbers[other];
            numbers[other] = kept;
        }

        boolean isItsTurned() {
            for (int row = 0; row < SIDE; row++) {
                for (int column = 0; column < row; column++) {
                    if (entryAt(row, column) != entryAt(column, row)) {
                        return false;
                    }
                }
            }
            return true;
        }

        int trace() {
            int trace = 0;
            for (int row = 0; row < SIDE; row++) {
                trace += entryAt(row, row);
            }
            return trace;
        }

        int sum() {
            int sum = 0;
            for (int cell = 0; cell < CELLS; cell++) {
                sum += entries[cell];
            }
            return sum;
        }

        int filledEntries() {
            int filled = 0;
            for (int cell = 0; cell < CELLS; cell++) {
                filled += entries[cell] != 0 ? 1 : 0;
            }
            return filled;
        }

        int greatest() {
            int greatest = entries[0];
            for (int cell = 1; cell < CELLS; cell++) {
                greatest = Math.max(greatest, entries[cell]);
            }
            return greatest;
        }

        int least() {
            int least = entries[0];
            for (int cell = 1; cell < CELLS; cell++) {
                least = Math.min(least, entries[cell]);
            }
            return least;
        }

        int greatestDifference(Matrix other) {
            int greatest = 0;
            for (int cell = 0; cell < CELLS; cell++) {
                greatest = Math.max(greatest, Math.abs(entries[cell] - other.entries[cell]));
            }
            return greatest;
        }
    }

    /** All that undo() and restore() bring back. */
    private static final class State {
        private final Matrix[] matrices = new Matrix[MATRICES];
        private int changes = 0;

        State() {
            for (int matrix = 0; matrix < MATRICES; matrix++) {
                matrices[matrix] = new Matrix();
            }
        }

        void become(State other) {
            for (int matrix = 0; matrix < MATRICES; matrix++) {
                matrices[matrix].become(other.matrices[matrix]);
            }
            changes = other.changes;
        }

        int room() {
            int room = 0;
            for (int matrix = 0; matrix < MATRICES; matrix++) {
                room += matrices[matrix].room();
            }
            return room;
        }

        /** The matrices that are an EMPTY block, as a set: the bit m stands for the matrix m. */
        int emptyOnes() {
            int set = 0;
            for (int matrix = 0; matrix < MATRICES; matrix++) {
                if (matrices[matrix].sortOf(0, 0, 0) == EMPTY) {
                    set |= 1 << matrix;
                }
            }
            return set;
        }
    }

    private static final class Slot {
        private final State state = new State();
        private boolean isSaved = false;
    }

    /** The latest states, in a ring: one more than it holds takes the place of the oldest one. */
    private static final class History {
        private final State[] states = new State[HISTORY];
        private int oldest = 0;
        private int length = 0;

        History() {
            for (int state = 0; state < HISTORY; state++) {
                states[state] = new State();
            }
        }

        void keep(State state) {
            states[(oldest + length) % HISTORY].become(state);
            if (length < HISTORY) {
                length++;
            } else {
                oldest = (oldest + 1) % HISTORY;
            }
        }

        /** Gives the latest state back, if there is one. */
        void takeBack(State state) {
            if (length > 0) {
                length--;
                state.become(states[(oldest + length) % HISTORY]);
            }
        }
    }

    /**
     * The text that is put together by calls, and the reading of it from left to right. Each step of the reading
     * that answers false leaves the position at the fault.
     */
    private static final class Pad {
        private final char[] signs = new char[PAD];
        private int length = 0;
        private final Matrix told = new Matrix();
        // Rows that readings use again, so that no call makes an object.
        private final int[] u = new int[SIDE];
        private final int[] v = new int[SIDE];
        private final int[] full = new int[CELLS];
        private int position = 0;
        private int value = 0;

        void append(char sign) {
            if (length < PAD) {
                signs[length] = sign;
                length++;
            }
        }

        /** Whether the text has no fault; then the matrix told is what it tells. */
        boolean read() {
            position = 0;
            return readBlock(0, 0, 0) && position == length;
        }

        private boolean readBlock(int depth, int row, int column) {
            if (passes('0')) {
                told.setEmpty(depth, row, column);
                return true;
            }
            if (passes('d')) {
                return readSame(depth, row, column);
            }
            if (passes('u')) {
                return readProduct(depth, row, column);
            }
            if (passes('f')) {
                return readFull(depth, row, column);
            }
            return depth < DEEPEST && passes('(') && readParts(depth, row, column);
        }

        private boolean readParts(int depth, int row, int column) {
            told.setSort(depth, row, column, CUT);
            for (int part = 0; part < PARTS; part++) {
                int partRow = Matrix.rowOfPart(depth, row, part);
                int partColumn = Matrix.columnOfPart(depth, column, part);
                if (!readBlock(depth + 1, partRow, partColumn)) {
                    return false;
                }
            }
            return passes(')');
        }

        private boolean readSame(int depth, int row, int column) {
            if (!readValue()) {
                return false;
            }
            for (int i = 0; i < SIDE; i++) {
                u[i] = value;
                v[i] = 1;
            }
            told.setThin(depth, row, column, u, v);
            return true;
        }

        private boolean readProduct(int depth, int row, int column) {
            int size = sizeAt(depth);
            if (!readValues(u, size) || !passes('v') || !readValues(v, size)) {
                return false;
            }
            told.setThin(depth, row, column, u, v);
            return true;
        }

        private boolean readFull(int depth, int row, int column) {
            int size = sizeAt(depth);
            if (!readValues(full, size * size)) {
                return false;
            }
            told.setFull(depth, row, column, full);
            return true;
        }

        /** Reads values into so many places: the last one goes on to their end, what is beyond them is left out. */
        private boolean readValues(int[] values, int places) {
            int end = Math.min(places, values.length);
            int filled = 0;
            boolean goesOn = true;
            for (int read = 0; goesOn && read < PAD; read++) {
                if (!readValue()) {
                    return false;
                }
                if (filled < end) {
                    values[filled] = value;
                    filled++;
                }
                goesOn = passes(',');
            }
            for (int place = filled; place < end; place++) {
                values[place] = value;
            }
            return true;
        }

        private boolean readValue() {
            boolean isBelow = passes('-');
            value = 0;
            // Nothing goes on behind a 0 that a number begins with.
            if (passes('0')) {
                return true;
            }
            if (digit() < 0) {
                return false;
            }
            for (int read = 0; digit() >= 0 && read < PAD; read++) {
                value = value * 10 + digit();
                if (value > MOST_NUMBER) {
                    return false;
                }
                position++;
            }
            value = isBelow ? -value : value;
            return true;
        }

        /** Goes beyond the next character if it is this one. */
        private boolean passes(char sign) {
            if (position >= length || position >= PAD || signs[position] != sign) {
                return false;
            }
            position++;
            return true;
        }

        /** The next character as a digit; -1 if it is none. */
        private int digit() {
            if (position >= length || position >= PAD || signs[position] < '0' || signs[position] > '9') {
                return -1;
            }
            return signs[position] - '0';
        }
    }
}
