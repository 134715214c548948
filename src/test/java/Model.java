import java.util.ArrayList;
import java.util.List;

/**
 * The document once more, told in the plainest other way: trees of objects that never change, THIN blocks with
 * their u and v, texts read by a table of what is expected next. It shares no code with BlockTrees.
 */
final class Model {
    static final class Node {
        int sort;
        int size;
        long[] u;
        long[] v;
        long[][] full;
        Node[] parts;

        long at(int i, int j) {
            switch (sort) {
                case 0:
                    return 0;
                case 1:
                    return full[i][j];
                case 2:
                    return u[i] * v[j];
                default:
                    int half = size / 2;
                    return parts[(i < half ? 0 : 2) + (j < half ? 0 : 1)].at(i % half, j % half);
            }
        }

        int room() {
            switch (sort) {
                case 0:
                    return 0;
                case 1:
                    return size * size;
                case 2:
                    return 2 * size;
                default:
                    return 1 + parts[0].room() + parts[1].room() + parts[2].room() + parts[3].room();
            }
        }

        int blocks(int wanted) {
            int blocks = sort == wanted ? 1 : 0;
            for (int k = 0; sort == 3 && k < 4; k++) {
                blocks += parts[k].blocks(wanted);
            }
            return blocks;
        }

        int deepest() {
            int deepest = 0;
            for (int k = 0; sort == 3 && k < 4; k++) {
                deepest = Math.max(deepest, 1 + parts[k].deepest());
            }
            return deepest;
        }
    }

    static Node empty(int size) {
        Node node = new Node();
        node.size = size;
        return node;
    }

    static Node full(int size) {
        Node node = empty(size);
        node.sort = 1;
        node.full = new long[size][size];
        return node;
    }

    static Node thin(long[] u, long[] v) {
        Node node = empty(u.length);
        node.sort = 2;
        node.u = u;
        node.v = v;
        return node;
    }

    static Node cut(Node[] parts) {
        Node node = empty(2 * parts[0].size);
        node.sort = 3;
        node.parts = parts;
        return node;
    }

    // ---- the state

    static final class State {
        Node[] matrices = {empty(16), empty(16), empty(16), empty(16)};
        int changes = 0;

        State twin() {
            State twin = new State();
            twin.matrices = matrices.clone();
            twin.changes = changes;
            return twin;
        }

        int room() {
            int room = 0;
            for (Node matrix : matrices) {
                room += matrix.room();
            }
            return room;
        }
    }

    State now = new State();
    final List<State> history = new ArrayList<>();
    final State[] slots = new State[2];
    String pad = "";

    private void remember() {
        history.add(now.twin());
        if (history.size() > 6) {
            history.remove(0);
        }
        now.changes++;
    }

    private static boolean none(int... places) {
        for (int k = 0; k < places.length; k++) {
            if (places[k] < 0 || places[k] > (k == 0 ? 3 : 15)) {
                return true;
            }
        }
        return false;
    }

    // ---- changes

    int tell(int matrix) {
        if (none(matrix)) {
            return -1;
        }
        Reading reading = new Reading(pad);
        if (reading.fault >= 0) {
            return -3;
        }
        remember();
        now.matrices[matrix] = reading.told;
        pad = "";
        return reading.told.room();
    }

    int entry(int matrix, int row, int column, int value) {
        if (none(matrix, row, column)) {
            return -1;
        }
        if (value < -1000000 || value > 1000000) {
            return -2;
        }
        remember();
        int previous = (int) now.matrices[matrix].at(row, column) + 1000000;
        now.matrices[matrix] = changed(now.matrices[matrix], row, column, value);
        return previous;
    }

    private static Node changed(Node node, int i, int j, int value) {
        if (node.size == 2) {
            Node changed = full(2);
            for (int k = 0; k < 4; k++) {
                changed.full[k / 2][k % 2] = node.at(k / 2, k % 2);
            }
            changed.full[i][j] = value;
            return changed;
        }
        Node[] parts = node.sort == 3 ? node.parts.clone() : partsOf(node);
        int half = node.size / 2;
        int part = (i < half ? 0 : 2) + (j < half ? 0 : 1);
        parts[part] = changed(parts[part], i % half, j % half, value);
        return cut(parts);
    }

    private static Node[] partsOf(Node node) {
        int half = node.size / 2;
        Node[] parts = new Node[4];
        for (int k = 0; k < 4; k++) {
            int i = k / 2 * half;
            int j = k % 2 * half;
            if (node.sort == 0) {
                parts[k] = empty(half);
            } else if (node.sort == 2) {
                parts[k] = thin(java.util.Arrays.copyOfRange(node.u, i, i + half),
                        java.util.Arrays.copyOfRange(node.v, j, j + half));
            } else {
                parts[k] = full(half);
                for (int a = 0; a < half * half; a++) {
                    parts[k].full[a / half][a % half] = node.full[i + a / half][j + a % half];
                }
            }
        }
        return parts;
    }

    int shrink(int matrix) {
        if (none(matrix)) {
            return -1;
        }
        remember();
        int before = now.matrices[matrix].room();
        now.matrices[matrix] = smaller(now.matrices[matrix]);
        return before - now.matrices[matrix].room();
    }

    static Node smaller(Node node) {
        if (node.sort == 0) {
            return node;
        }
        if (node.sort == 3) {
            Node[] parts = new Node[4];
            int emptyOnes = 0;
            for (int k = 0; k < 4; k++) {
                parts[k] = smaller(node.parts[k]);
                emptyOnes += parts[k].sort == 0 ? 1 : 0;
            }
            Node less = cut(parts);
            if (emptyOnes == 4) {
                return empty(node.size);
            }
            if (one(less, 0, 0, node.size) == 1 && 2 * node.size <= less.room()) {
                return product(less);
            }
            return less;
        }
        int told = one(node, 0, 0, node.size);
        if (told == 2) {
            return empty(node.size);
        }
        return node.sort == 1 && told == 1 ? product(node) : node;
    }

    /** 2: all 0, 1: each two rows are multiples of one another, 0: some are not. */
    static int one(Node node, int row, int column, int size) {
        boolean zero = true;
        for (int a = 0; a < size * size; a++) {
            zero &= node.at(row + a / size, column + a % size) == 0;
        }
        if (zero) {
            return 2;
        }
        for (int i = 0; i < size; i++) {
            for (int k = 0; k < i; k++) {
                for (int j = 0; j < size; j++) {
                    for (int l = 0; l < j; l++) {
                        if (node.at(row + i, column + j) * node.at(row + k, column + l)
                                != node.at(row + i, column + l) * node.at(row + k, column + j)) {
                            return 0;
                        }
                    }
                }
            }
        }
        return 1;
    }

    private static Node product(Node node) {
        int size = node.size;
        int p = -1;
        int q = -1;
        for (int a = 0; a < size * size; a++) {
            p = p < 0 && node.at(a / size, a % size) != 0 ? a / size : p;
            q = q < 0 && node.at(a % size, a / size) != 0 ? a / size : q;
        }
        long g = 0;
        for (int j = 0; j < size; j++) {
            g = gcd(g, Math.abs(node.at(p, j)));
        }
        long sign = node.at(p, q) < 0 ? -1 : 1;
        long[] u = new long[size];
        long[] v = new long[size];
        for (int j = 0; j < size; j++) {
            v[j] = sign * node.at(p, j) / g;
        }
        for (int i = 0; i < size; i++) {
            if (node.at(i, q) % v[q] != 0) {
                throw new IllegalStateException("a rest");
            }
            u[i] = node.at(i, q) / v[q];
        }
        return thin(u, v);
    }

    private static long gcd(long a, long b) {
        return b == 0 ? a : gcd(b, a % b);
    }

    int add(int matrix, int other, int times) {
        if (none(matrix) || none(other)) {
            return -1;
        }
        if (times < -99 || times > 99 || times == 0 || matrix == other) {
            return -2;
        }
        remember();
        now.matrices[matrix] = sum(now.matrices[matrix], now.matrices[other], times);
        return now.matrices[matrix].room();
    }

    static Node sum(Node mine, Node theirs, int times) {
        if (theirs.sort == 0) {
            return mine;
        }
        if (mine.sort == 3 && theirs.sort == 3) {
            Node[] parts = new Node[4];
            for (int k = 0; k < 4; k++) {
                parts[k] = sum(mine.parts[k], theirs.parts[k], times);
            }
            return cut(parts);
        }
        Node sum = full(mine.size);
        for (int i = 0; i < mine.size; i++) {
            for (int j = 0; j < mine.size; j++) {
                long entry = mine.at(i, j) + times * theirs.at(i, j);
                sum.full[i][j] = entry > 1000000 ? 1000000 : entry < -1000000 ? -1000000 : entry;
            }
        }
        return sum;
    }

    int turn(int matrix) {
        if (none(matrix)) {
            return -1;
        }
        remember();
        now.matrices[matrix] = turned(now.matrices[matrix]);
        return of(matrix, 7);
    }

    private static Node turned(Node node) {
        switch (node.sort) {
            case 0:
                return node;
            case 1:
                Node full = full(node.size);
                for (int i = 0; i < node.size; i++) {
                    for (int j = 0; j < node.size; j++) {
                        full.full[j][i] = node.full[i][j];
                    }
                }
                return full;
            case 2:
                return thin(node.v, node.u);
            default:
                return cut(new Node[] {turned(node.parts[0]), turned(node.parts[2]),
                    turned(node.parts[1]), turned(node.parts[3])});
        }
    }

    int copy(int matrix, int from) {
        if (none(matrix) || none(from)) {
            return -1;
        }
        if (matrix == from) {
            return -2;
        }
        remember();
        now.matrices[matrix] = now.matrices[from];
        return now.matrices[matrix].room();
    }

    int clear(int matrix, int row, int column) {
        if (none(matrix, row, column)) {
            return -1;
        }
        int size = block(matrix, row, column, 1);
        remember();
        now.matrices[matrix] = cleared(now.matrices[matrix], row, column);
        return size;
    }

    private static Node cleared(Node node, int i, int j) {
        if (node.sort != 3) {
            return empty(node.size);
        }
        Node[] parts = node.parts.clone();
        int half = node.size / 2;
        int part = (i < half ? 0 : 2) + (j < half ? 0 : 1);
        parts[part] = cleared(parts[part], i % half, j % half);
        return cut(parts);
    }

    // ---- what there is

    int at(int matrix, int row, int column) {
        return none(matrix, row, column) ? -1 : (int) now.matrices[matrix].at(row, column) + 1000000;
    }

    int block(int matrix, int row, int column, int what) {
        if (none(matrix, row, column)) {
            return -1;
        }
        Node node = now.matrices[matrix];
        int firstRow = 0;
        int firstColumn = 0;
        int depth = 0;
        while (node.sort == 3) {
            int half = node.size / 2;
            int part = 0;
            if (row >= firstRow + half) {
                firstRow += half;
                part += 2;
            }
            if (column >= firstColumn + half) {
                firstColumn += half;
                part += 1;
            }
            node = node.parts[part];
            depth++;
        }
        int[] answers = {node.sort, node.size, firstRow, firstColumn, node.room(), depth};
        return what < 0 || what > 5 ? -2 : answers[what];
    }

    int of(int matrix, int what) {
        if (none(matrix)) {
            return -1;
        }
        if (what < 0 || what > 10) {
            return -2;
        }
        Node m = now.matrices[matrix];
        int filled = 0;
        int trace = 0;
        long greatest = Long.MIN_VALUE;
        long least = Long.MAX_VALUE;
        int same = 1;
        for (int i = 0; i < 16; i++) {
            trace += (int) m.at(i, i);
            for (int j = 0; j < 16; j++) {
                filled += m.at(i, j) == 0 ? 0 : 1;
                greatest = Math.max(greatest, m.at(i, j));
                least = Math.min(least, m.at(i, j));
                same = m.at(i, j) == m.at(j, i) ? same : 0;
            }
        }
        int[] answers = {m.room(), m.deepest(), m.blocks(0), m.blocks(1), m.blocks(2), m.blocks(3), filled,
            trace + 100000000, (int) greatest + 1000000, (int) least + 1000000, same};
        return answers[what];
    }

    long product(int matrix, int row, int a, int b) {
        if (none(matrix, row) || a < -9999 || a > 9999 || b < -999 || b > 999) {
            return -1000000000000L;
        }
        long sum = 0;
        for (int j = 0; j < 16; j++) {
            sum += now.matrices[matrix].at(row, j) * (a + (long) b * j);
        }
        return sum;
    }

    long mean(int matrix) {
        if (none(matrix)) {
            return Double.doubleToLongBits(0.0);
        }
        long sum = 0;
        for (int cell = 0; cell < 256; cell++) {
            sum += now.matrices[matrix].at(cell / 16, cell % 16);
        }
        return Double.doubleToLongBits((double) sum / 256);
    }

    int share(int matrix) {
        return none(matrix) ? -1 : Float.floatToIntBits((float) now.matrices[matrix].room() / 256);
    }

    int count(int what) {
        switch (what) {
            case 0:
                return now.room();
            case 1:
                int set = 0;
                for (int m = 0; m < 4; m++) {
                    set += now.matrices[m].sort == 0 ? 1 << m : 0;
                }
                return set;
            case 2:
                return now.changes;
            case 3:
                return pad.length();
            case 4:
                return history.size();
            default:
                return -2;
        }
    }

    // ---- what if

    int far(int one, int other) {
        if (none(one) || none(other)) {
            return -1;
        }
        long far = 0;
        for (int cell = 0; cell < 256; cell++) {
            far = Math.max(far, Math.abs(now.matrices[one].at(cell / 16, cell % 16)
                    - now.matrices[other].at(cell / 16, cell % 16)));
        }
        return (int) far;
    }

    int wouldTake(int matrix) {
        return none(matrix) ? -1 : smaller(now.matrices[matrix]).room();
    }

    int isOne(int matrix, int row, int column, int size) {
        if (none(matrix)) {
            return -1;
        }
        if (size != 2 && size != 4 && size != 8 && size != 16) {
            return -2;
        }
        if (none(0, row, column) || row % size != 0 || column % size != 0) {
            return -2;
        }
        return one(now.matrices[matrix], row, column, size);
    }

    int bestTimes(int matrix, int other, int what) {
        if (none(matrix) || none(other)) {
            return -1;
        }
        if (what < 0 || what > 1 || matrix == other) {
            return -2;
        }
        int best = 0;
        int most = -1;
        for (int times = -99; times <= 99; times++) {
            int zeros = 0;
            Node sum = sum(now.matrices[matrix], now.matrices[other], times);
            for (int cell = 0; cell < 256; cell++) {
                zeros += sum.at(cell / 16, cell % 16) == 0 ? 1 : 0;
            }
            if (times != 0 && zeros > most) {
                best = times;
                most = zeros;
            }
        }
        return what == 0 ? best + 100 : most;
    }

    // ---- texts

    int put(long characters) {
        StringBuilder text = new StringBuilder();
        boolean over = false;
        for (int shift = 0; shift < 64; shift += 8) {
            int code = (int) (characters >>> shift & 255);
            if (code == 0) {
                over = true;
            } else if (over || code < 33 || code > 126) {
                return -2;
            } else {
                text.insert(0, (char) code);
            }
        }
        if (text.length() == 0) {
            return -2;
        }
        if (pad.length() + text.length() > 80) {
            return -4;
        }
        pad += text;
        return pad.length();
    }

    int wipe() {
        int length = pad.length();
        pad = "";
        return length;
    }

    int fault() {
        int fault = new Reading(pad).fault;
        return fault < 0 ? -6 : fault;
    }

    // ---- undo, saving

    int undo() {
        if (history.isEmpty()) {
            return -5;
        }
        now = history.remove(history.size() - 1);
        return history.size();
    }

    int save(int slot) {
        if (slot != 0 && slot != 1) {
            return -2;
        }
        slots[slot] = now.twin();
        return now.room();
    }

    int restore(int slot) {
        if (slot != 0 && slot != 1) {
            return -2;
        }
        if (slots[slot] == null) {
            return -5;
        }
        remember();
        now = slots[slot].twin();
        return now.room();
    }

    /** Reads a text character by character, with the open brackets on a stack of their own. */
    static final class Reading {
        private static final int BLOCK = 0, VALUE = 1, DIGIT = 2, IN_NUMBER = 3, AFTER_NUMBER = 4;

        int fault = -1;
        Node told = null;
        private int expected = BLOCK;
        private char kind = 0;
        private final StringBuilder number = new StringBuilder();
        private List<Long> first = new ArrayList<>();
        private List<Long> second = new ArrayList<>();
        private final List<List<Node>> open = new ArrayList<>();

        Reading(String text) {
            for (int i = 0; i < text.length() && fault < 0; i++) {
                if (!takes(text.charAt(i))) {
                    fault = i;
                }
            }
            if (fault < 0 && !ends()) {
                fault = text.length();
            }
        }

        private boolean ends() {
            if (told == null && (expected == IN_NUMBER || expected == AFTER_NUMBER) && kind != 'u') {
                endValue();
                endBlock();
            }
            return told != null;
        }

        private boolean takes(char c) {
            if (told != null) {
                return false;
            }
            if (expected == IN_NUMBER && c >= '0' && c <= '9') {
                number.append(c);
                return Math.abs(Integer.parseInt(number.toString())) <= 999;
            }
            if (expected == IN_NUMBER || expected == AFTER_NUMBER) {
                endValue();
                if (c == ',' && kind != 'd') {
                    expected = VALUE;
                    return true;
                }
                if (kind == 'u') {
                    kind = 'v';
                    expected = VALUE;
                    return c == 'v';
                }
                endBlock();
                return takes(c);
            }
            if (expected == VALUE && c == '-') {
                number.append(c);
                expected = DIGIT;
                return true;
            }
            if (expected == VALUE || expected == DIGIT) {
                number.append(c);
                expected = c == '0' ? AFTER_NUMBER : IN_NUMBER;
                return c >= '0' && c <= '9';
            }
            return takesAtBlock(c);
        }

        private int sizeHere() {
            return 16 >> open.size();
        }

        private boolean takesAtBlock(char c) {
            if (!open.isEmpty() && open.get(open.size() - 1).size() == 4) {
                if (c != ')') {
                    return false;
                }
                List<Node> parts = open.remove(open.size() - 1);
                place(cut(parts.toArray(new Node[0])));
                return true;
            }
            if (c == '(') {
                open.add(new ArrayList<>());
                return sizeHere() >= 2;
            }
            if (c == '0') {
                place(empty(sizeHere()));
                return true;
            }
            kind = c;
            expected = VALUE;
            first = new ArrayList<>();
            second = new ArrayList<>();
            return c == 'd' || c == 'u' || c == 'f';
        }

        private void endValue() {
            (kind == 'v' ? second : first).add(Long.parseLong(number.toString()));
            number.setLength(0);
        }

        private static long[] row(List<Long> values, int length) {
            long[] row = new long[length];
            for (int i = 0; i < length; i++) {
                row[i] = values.get(Math.min(i, values.size() - 1));
            }
            return row;
        }

        private void endBlock() {
            int size = sizeHere();
            if (kind == 'f') {
                Node full = full(size);
                long[] values = row(first, size * size);
                for (int i = 0; i < size; i++) {
                    full.full[i] = java.util.Arrays.copyOfRange(values, i * size, (i + 1) * size);
                }
                place(full);
            } else {
                place(thin(row(first, size), kind == 'd' ? row(List.of(1L), size) : row(second, size)));
            }
        }

        private void place(Node node) {
            expected = BLOCK;
            if (open.isEmpty()) {
                told = node;
            } else {
                open.get(open.size() - 1).add(node);
            }
        }
    }
}
