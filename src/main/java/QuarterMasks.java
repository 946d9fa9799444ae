import java.util.Arrays;

/** Four masks of sixteen by sixteen cells, told as region quadtrees; DOC.md has the promises. */
public final class QuarterMasks {
    public static final int NONE = -1, BAD = -2, NOT = -3;

    private static final int MASKS = 4, SIDE = 16, CELLS = 256, FULL_ROW = 0xFFFF;
    private static final int LIGHT = 0, DARK = 1, MIXED = 2;
    private static final int MOST_SIGNS = 341, MOST_CHANGES = 40, MOST_DOTS = 255, MOST_BAND = 30;
    /** No two cells of a pair side by side are in two parts, so parts are half of the cells at most. */
    private static final int MOST_PARTS = 128;
    private static final int FIGURES = 6;
    private static final int PART_CELLS = 0, PART_BORDER = 1, LEAST_X = 2, LEAST_Y = 3, GREATEST_X = 4, GREATEST_Y = 5;
    private static final int SHEETS = 4, FORMS = 3, MOST_ITEMS = 60;
    private static final int BYTES = 0, SHORTS = 1;
    private static final int NULL = 1, INDEX = 2, CAST = 3, STORE = 4, SIZE = 5;
    private static final int LEAST_INT = -2147483648;

    private final Grid[] masks = new Grid[MASKS];
    private final Sheet[] sheets = new Sheet[SHEETS];
    private final Changes changes = new Changes();
    /** What a mask is to become is made here first, so that a mask may become something of itself. */
    private final Grid made = new Grid();
    private final Grid spare = new Grid();
    private final Parts darkParts = new Parts();
    private final Parts lightParts = new Parts();
    private final Signs signs = new Signs();
    private int latestFinding = 0;

    public QuarterMasks() {
        for (int i = 0; i < MASKS; i++) {
            masks[i] = new Grid();
        }
        for (int i = 0; i < SHEETS; i++) {
            sheets[i] = new Sheet();
        }
    }

    // ---- what a mask becomes

    public int fill(int mask, int x, int y, int w, int h, int v) {
        if (!isMask(mask) || !isCell(x, y) || !within(w, SIDE + 1) || !within(h, SIDE + 1) || !within(v, 2)) {
            return BAD;
        }
        made.take(masks[mask]);
        made.paint(x, y, w, h, v);
        return become(mask);
    }

    public int dots(int mask, int seed, int n) {
        if (!isMask(mask) || !within(n, MOST_DOTS + 1)) {
            return BAD;
        }
        made.take(masks[mask]);
        int lot = seed;
        for (int i = 0; i < n; i++) {
            lot = 1103515245 * lot + 12345;
            int chosen = (lot >>> 16) % CELLS;
            made.flip(chosen % SIDE, chosen / SIDE);
        }
        return become(mask);
    }

    public int join(int kind, int a, int b, int to) {
        if (!within(kind, 4) || !isMask(a) || !isMask(b) || !isMask(to)) {
            return BAD;
        }
        for (int y = 0; y < SIDE; y++) {
            made.setRow(y, joinedRow(kind, masks[a].row(y), masks[b].row(y)));
        }
        return become(to);
    }

    private static int joinedRow(int kind, int a, int b) {
        switch (kind) {
            case 0:
                return a | b;
            case 1:
                return a & b;
            case 2:
                return a & ~b;
            default:
                return a ^ b;
        }
    }

    public int over(int a, int to) {
        if (!isMask(a) || !isMask(to)) {
            return BAD;
        }
        made.takeTurnedOver(masks[a]);
        return become(to);
    }

    public int move(int a, int dx, int dy, int to) {
        if (!isMask(a) || !isMove(dx) || !isMove(dy) || !isMask(to)) {
            return BAD;
        }
        for (int y = 0; y < SIDE; y++) {
            int from = masks[a].row(y - dy);
            made.setRow(y, dx < 0 ? from >>> -dx : from << dx);
        }
        return become(to);
    }

    public int turn(int a, int times, int to) {
        if (!isMask(a) || !within(times, 4) || !isMask(to)) {
            return BAD;
        }
        made.take(masks[a]);
        for (int i = 0; i < times; i++) {
            spare.takeTurnedRight(made);
            made.take(spare);
        }
        return become(to);
    }

    public int band(int a, int d, int to) {
        if (!isMask(a) || !within(d, MOST_BAND + 1) || !isMask(to)) {
            return BAD;
        }
        made.take(masks[a]);
        for (int i = 0; i < d; i++) {
            spare.takeWidened(made);
            made.take(spare);
        }
        return become(to);
    }

    public int pick(int a, int x, int y, int to) {
        if (!isMask(a) || !isCell(x, y) || !isMask(to)) {
            return BAD;
        }
        darkParts.look(masks[a]);
        int chosen = darkParts.labelAt(x, y);
        if (chosen == NONE) {
            return NOT;
        }
        for (int row = 0; row < SIDE; row++) {
            made.setRow(row, darkParts.rowOfPart(chosen, row));
        }
        return become(to);
    }

    public int read(int mask, int s) {
        if (!isMask(mask) || !isSheet(s)) {
            return BAD;
        }
        if (sheets[s].lost) {
            return found(NULL);
        }
        int taken = readSquare(sheets[s], 0, made, 0, 0, SIDE);
        if (taken == NONE) {
            return NOT;
        }
        become(mask);
        return taken;
    }

    /** Where the items behind a square's signs begin; NONE if they do not tell it. The side halves at each level. */
    private static int readSquare(Sheet sheet, int at, Grid into, int x, int y, int side) {
        if (at >= sheet.size) {
            return NONE;
        }
        int sign = sheet.item(at);
        if (sign == LIGHT || sign == DARK) {
            into.paint(x, y, side, side, sign);
            return at + 1;
        }
        if (sign != MIXED || side <= 1) {
            return NONE;
        }
        int half = side / 2;
        int next = at + 1;
        for (int quarter = 0; quarter < 4 && next != NONE; quarter++) {
            next = readSquare(sheet, next, into, x + quarter % 2 * half, y + quarter / 2 * half, half);
        }
        return next;
    }

    public int back() {
        if (changes.known == 0) {
            return NOT;
        }
        int mask = changes.undo(made);
        if (isMask(mask)) {
            masks[mask].take(made);
        }
        return changes.known;
    }

    private int become(int mask) {
        changes.keep(mask, masks[mask]);
        masks[mask].take(made);
        return made.darkCells();
    }

    // ---- cells, blocks

    public int cell(int mask, int x, int y) {
        if (!isMask(mask) || !isCell(x, y)) {
            return BAD;
        }
        return masks[mask].isDark(x, y) ? 1 : 0;
    }

    public int block(int mask, int x, int y, int what) {
        if (!isMask(mask) || !isCell(x, y) || !within(what, 3)) {
            return BAD;
        }
        int side = masks[mask].sideOfBlock(x, y);
        switch (what) {
            case 0:
                return x & -side;
            case 1:
                return y & -side;
            default:
                return side;
        }
    }

    public int blocks(int mask, int what) {
        if (!isMask(mask) || !within(what, 4)) {
            return BAD;
        }
        signs.look(masks[mask]);
        switch (what) {
            case 0:
                return signs.told - signs.mixed;
            case 1:
                return signs.darkBlocks;
            case 2:
                return signs.mixed;
            default:
                return signs.deepest;
        }
    }

    public int shown(int mask, int i) {
        if (!isMask(mask) || (i != NONE && !within(i, MOST_SIGNS))) {
            return BAD;
        }
        signs.look(masks[mask]);
        return i == NONE ? signs.told : signs.sign(i);
    }

    // ---- parts

    public int all(int mask, int what) {
        if (!isMask(mask) || !within(what, 4)) {
            return BAD;
        }
        switch (what) {
            case 0:
                darkParts.look(masks[mask]);
                return darkParts.parts;
            case 1:
                return masks[mask].border();
            case 2:
                spare.takeTurnedOver(masks[mask]);
                lightParts.look(spare);
                return lightParts.partsOffTheEdge();
            default:
                return masks[mask].darkCells();
        }
    }

    public int label(int mask, int x, int y) {
        if (!isMask(mask) || !isCell(x, y)) {
            return BAD;
        }
        darkParts.look(masks[mask]);
        return darkParts.labelAt(x, y);
    }

    public int part(int mask, int part, int what) {
        if (!isMask(mask) || !within(what, FIGURES)) {
            return BAD;
        }
        darkParts.look(masks[mask]);
        if (!within(part, darkParts.parts)) {
            return BAD;
        }
        return darkParts.figure(part, what);
    }

    public int near(int mask, int x, int y) {
        if (!isMask(mask) || !isCell(x, y)) {
            return BAD;
        }
        return masks[mask].distanceFrom(x, y);
    }

    // ---- two masks

    public int both(int a, int b, int what) {
        if (!isMask(a) || !isMask(b) || !within(what, 4)) {
            return BAD;
        }
        switch (what) {
            case 0:
                return masks[a].sameAs(masks[b]) ? 1 : 0;
            case 1:
                return masks[a].darkCellsIn(masks[b]) == masks[a].darkCells() ? 1 : 0;
            case 2:
                return masks[a].darkCellsIn(masks[b]);
            default:
                return masks[a].touches(masks[b]) ? 1 : 0;
        }
    }

    // ---- sheets

    public int sheet(int s, int form, int n) {
        if (!isSheet(s) || !within(form, FORMS) || n > MOST_ITEMS) {
            return BAD;
        }
        if (n < 0) {
            return found(SIZE);
        }
        sheets[s].begin(form, n);
        return n;
    }

    public int lose(int s) {
        if (!isSheet(s)) {
            return BAD;
        }
        if (sheets[s].lost) {
            return found(NULL);
        }
        sheets[s].lost = true;
        return sheets[s].size;
    }

    public int lay(int s, int form, int i, int v) {
        if (!isSheet(s) || !within(form, FORMS)) {
            return BAD;
        }
        int finding = findingAt(sheets[s], form, i);
        if (finding != 0) {
            return found(finding);
        }
        sheets[s].setItem(i, v);
        return 1;
    }

    public int get(int s, int form, int i) {
        if (!isSheet(s) || !within(form, FORMS)) {
            return LEAST_INT;
        }
        int finding = findingAt(sheets[s], form, i);
        if (finding != 0) {
            latestFinding = finding;
            return LEAST_INT;
        }
        return sheets[s].item(i);
    }

    /** The first finding against an item that is treated as of a form; 0 if there is none. */
    private static int findingAt(Sheet sheet, int form, int i) {
        if (sheet.lost) {
            return NULL;
        }
        if (sheet.form != form) {
            return CAST;
        }
        return within(i, sheet.size) ? 0 : INDEX;
    }

    public int copy(int s, int i, int t, int j, int n) {
        if (!isSheet(s) || !isSheet(t)) {
            return BAD;
        }
        if (sheets[s].lost || sheets[t].lost) {
            return found(NULL);
        }
        if (sheets[s].form != sheets[t].form) {
            return found(STORE);
        }
        if (!sheets[s].hasItems(i, n) || !sheets[t].hasItems(j, n)) {
            return found(INDEX);
        }
        System.arraycopy(sheets[s].items, i, sheets[t].items, j, n);
        return 1;
    }

    public int write(int mask, int i, int s) {
        if (!isMask(mask) || !within(i, MOST_SIGNS) || !isSheet(s)) {
            return BAD;
        }
        if (sheets[s].lost) {
            return found(NULL);
        }
        signs.look(masks[mask]);
        int written = Math.max(0, Math.min(sheets[s].size, signs.told - i));
        for (int k = 0; k < written; k++) {
            sheets[s].setItem(k, signs.sign(i + k));
        }
        return written;
    }

    public int count(int what) {
        switch (what) {
            case 0:
            case 1:
            case 2:
            case 3:
                return masks[what].darkCells();
            case 4:
                return blocksOfAll();
            case 5:
                return partsOfAll();
            case 6:
                return changes.known;
            case 7:
                return cellsDarkInAll();
            case 8:
                return latestFinding;
            default:
                return BAD;
        }
    }

    private int blocksOfAll() {
        int sum = 0;
        for (int mask = 0; mask < MASKS; mask++) {
            signs.look(masks[mask]);
            sum += signs.told - signs.mixed;
        }
        return sum;
    }

    private int partsOfAll() {
        int sum = 0;
        for (int mask = 0; mask < MASKS; mask++) {
            darkParts.look(masks[mask]);
            sum += darkParts.parts;
        }
        return sum;
    }

    private int cellsDarkInAll() {
        int sum = 0;
        for (int y = 0; y < SIDE; y++) {
            sum += Integer.bitCount(masks[0].row(y) & masks[1].row(y) & masks[2].row(y) & masks[3].row(y));
        }
        return sum;
    }

    public long digest() {
        long h = 17;
        for (int what = 0; what <= 7; what++) {
            h = 31 * h + count(what);
        }
        for (int mask = 0; mask < MASKS; mask++) {
            h = digestOfBlocks(h, mask);
            h = digestOfCells(h, mask);
            h = digestOfParts(h, mask);
            h = digestOfPairs(h, mask);
        }
        return h;
    }

    private long digestOfBlocks(long before, int mask) {
        long h = before;
        for (int what = 0; what <= 3; what++) {
            h = 31 * h + blocks(mask, what);
        }
        for (int what = 0; what <= 3; what++) {
            h = 31 * h + all(mask, what);
        }
        for (int i = NONE; i <= 40; i++) {
            h = 31 * h + shown(mask, i);
        }
        return h;
    }

    private long digestOfCells(long before, int mask) {
        long h = before;
        for (int y = 0; y < SIDE; y += 3) {
            for (int x = 0; x < SIDE; x += 5) {
                h = 31 * h + cell(mask, x, y);
                h = 31 * h + block(mask, x, y, 2);
                h = 31 * h + label(mask, x, y);
                h = 31 * h + near(mask, x, y);
            }
        }
        return h;
    }

    private long digestOfParts(long before, int mask) {
        long h = before;
        for (int it = 0; it <= 3; it++) {
            for (int what = 0; what < FIGURES; what++) {
                h = 31 * h + part(mask, it, what);
            }
        }
        return h;
    }

    private long digestOfPairs(long before, int mask) {
        long h = before;
        for (int it = 0; it < MASKS; it++) {
            for (int what = 0; what <= 3; what++) {
                h = 31 * h + both(mask, it, what);
            }
        }
        return h;
    }

    // ---- what a number may be

    private static boolean within(int n, int bound) {
        return n >= 0 && n < bound;
    }

    private static boolean isMask(int mask) {
        return within(mask, MASKS);
    }

    private static boolean isCell(int x, int y) {
        return within(x, SIDE) && within(y, SIDE);
    }

    private static boolean isMove(int d) {
        return d >= -SIDE && d <= SIDE;
    }

    private static boolean isSheet(int s) {
        return within(s, SHEETS);
    }

    private int found(int finding) {
        latestFinding = finding;
        return -10 - finding;
    }

    /** Sixteen rows of sixteen cells, a bit each, the lowest for x = 0; beyond the edge all is light. */
    private static final class Grid {
        private final int[] rows = new int[SIDE];

        int row(int y) {
            return y >= 0 && y < SIDE ? rows[y] : 0;
        }

        void setRow(int y, int bits) {
            if (within(y, SIDE)) {
                rows[y] = bits & FULL_ROW;
            }
        }

        boolean isDark(int x, int y) {
            return x >= 0 && x < SIDE && y >= 0 && y < SIDE && ((rows[y] >>> x) & 1) != 0;
        }

        void flip(int x, int y) {
            setRow(y, row(y) ^ (1 << x));
        }

        void paint(int x, int y, int w, int h, int v) {
            int bits = ((1 << w) - 1) << x;
            for (int line = y; line < y + h && line < SIDE; line++) {
                setRow(line, v == DARK ? row(line) | bits : row(line) & ~bits);
            }
        }

        void take(Grid other) {
            for (int y = 0; y < SIDE; y++) {
                rows[y] = other.rows[y];
            }
        }

        void takeTurnedOver(Grid other) {
            for (int y = 0; y < SIDE; y++) {
                rows[y] = other.rows[y] ^ FULL_ROW;
            }
        }

        /** The cell that comes to x, y by a quarter to the right was at y, 15 - x; the other must be another grid. */
        void takeTurnedRight(Grid other) {
            for (int y = 0; y < SIDE; y++) {
                int bits = 0;
                for (int x = 0; x < SIDE; x++) {
                    if (other.isDark(y, SIDE - 1 - x)) {
                        bits |= 1 << x;
                    }
                }
                rows[y] = bits;
            }
        }

        /** Dark cells, and their neighbours; the other must be another grid. */
        void takeWidened(Grid other) {
            for (int y = 0; y < SIDE; y++) {
                rows[y] = other.rows[y] | other.neighboursInRow(y);
            }
        }

        /** The cells of a row that are neighbours of a dark one. */
        int neighboursInRow(int y) {
            return ((row(y) << 1) | (row(y) >>> 1) | row(y - 1) | row(y + 1)) & FULL_ROW;
        }

        int darkCells() {
            int sum = 0;
            for (int y = 0; y < SIDE; y++) {
                sum += Integer.bitCount(rows[y]);
            }
            return sum;
        }

        int darkCellsIn(Grid other) {
            int sum = 0;
            for (int y = 0; y < SIDE; y++) {
                sum += Integer.bitCount(rows[y] & other.rows[y]);
            }
            return sum;
        }

        boolean sameAs(Grid other) {
            for (int y = 0; y < SIDE; y++) {
                if (rows[y] != other.rows[y]) {
                    return false;
                }
            }
            return true;
        }

        boolean touches(Grid other) {
            for (int y = 0; y < SIDE; y++) {
                if ((rows[y] & other.neighboursInRow(y)) != 0) {
                    return true;
                }
            }
            return false;
        }

        /** Each pair of dark neighbours takes two sides off the four that every dark cell has. */
        int border() {
            int pairs = 0;
            for (int y = 0; y < SIDE; y++) {
                pairs += Integer.bitCount(rows[y] & (rows[y] << 1));
                pairs += Integer.bitCount(rows[y] & row(y + 1));
            }
            return 4 * darkCells() - 2 * pairs;
        }

        /** LIGHT, DARK or MIXED. */
        int signOfSquare(int x, int y, int side) {
            int bits = ((1 << side) - 1) << x;
            int first = row(y) & bits;
            if (first != 0 && first != bits) {
                return MIXED;
            }
            for (int line = y + 1; line < y + side && line < SIDE; line++) {
                if ((row(line) & bits) != first) {
                    return MIXED;
                }
            }
            return first == 0 ? LIGHT : DARK;
        }

        int sideOfBlock(int x, int y) {
            for (int side = SIDE; side > 1; side /= 2) {
                if (signOfSquare(x & -side, y & -side, side) != MIXED) {
                    return side;
                }
            }
            return 1;
        }

        int distanceFrom(int x, int y) {
            int least = NONE;
            for (int line = 0; line < SIDE; line++) {
                int gap = gapInRow(rows[line], x);
                int far = gap + Math.abs(line - y);
                if (gap != NONE && (least == NONE || far < least)) {
                    least = far;
                }
            }
            return least;
        }

        private static int gapInRow(int bits, int x) {
            int reached = 1 << x;
            for (int gap = 0; gap < SIDE && bits != 0; gap++) {
                if ((bits & reached) != 0) {
                    return gap;
                }
                reached |= (reached << 1) | (reached >>> 1);
            }
            return NONE;
        }
    }

    /** The signs of the grid that was looked at last; a grid as it was is not worked through again. */
    private static final class Signs {
        private final Grid seen = new Grid();
        private final int[] list = new int[MOST_SIGNS];
        /** At first an all light grid has been seen: one light block. */
        private int told = 1;
        private int darkBlocks = 0;
        private int mixed = 0;
        private int deepest = 0;

        void look(Grid grid) {
            if (seen.sameAs(grid)) {
                return;
            }
            seen.take(grid);
            told = 0;
            darkBlocks = 0;
            mixed = 0;
            deepest = 0;
            tellSquare(this, 0, 0, SIDE, 1);
        }

        /** A cell alone is never mixed, so the levels are five at most. */
        private static void tellSquare(Signs into, int x, int y, int side, int level) {
            int sign = into.seen.signOfSquare(x, y, side);
            into.addSign(sign);
            if (sign != MIXED || side <= 1) {
                return;
            }
            into.mixed++;
            into.deepest = Math.max(into.deepest, level);
            int half = side / 2;
            for (int quarter = 0; quarter < 4; quarter++) {
                tellSquare(into, x + quarter % 2 * half, y + quarter / 2 * half, half, level + 1);
            }
        }

        private void addSign(int sign) {
            if (within(told, MOST_SIGNS)) {
                list[told] = sign;
                told++;
            }
            if (sign == DARK) {
                darkBlocks++;
            }
        }

        int sign(int i) {
            return within(i, told) && within(i, MOST_SIGNS) ? list[i] : NONE;
        }
    }

    /** The parts of the grid that was looked at last; a grid as it was is not worked through again. */
    private static final class Parts {
        private final Grid seen = new Grid();
        private final int[] labels = new int[CELLS];
        /** The cells of one part, in the order in which they were come to. */
        private final int[] reached = new int[CELLS];
        private final int[] figures = new int[MOST_PARTS * FIGURES];
        private int parts = 0;

        Parts() {
            Arrays.fill(labels, NONE);
        }

        void look(Grid grid) {
            if (seen.sameAs(grid)) {
                return;
            }
            seen.take(grid);
            Arrays.fill(labels, NONE);
            parts = 0;
            for (int first = 0; first < CELLS; first++) {
                if (labels[first] == NONE && seen.isDark(first % SIDE, first / SIDE) && parts < MOST_PARTS) {
                    gather(first);
                    parts++;
                }
            }
        }

        private void gather(int first) {
            int x = first % SIDE;
            int y = first / SIDE;
            beginFigures(x, y);
            int end = reach(x, y, 0);
            for (int i = 0; i < end && i < CELLS; i++) {
                x = reached[i] % SIDE;
                y = reached[i] / SIDE;
                noteFigures(x, y);
                end = reach(x, y - 1, end);
                end = reach(x - 1, y, end);
                end = reach(x + 1, y, end);
                end = reach(x, y + 1, end);
            }
        }

        /**
         * Labels a cell at its first coming, so that none is reached twice; tells where the reached ones end.
         * It is come to over each side of each cell of the part, so a light one is a side of the border.
         */
        private int reach(int x, int y, int end) {
            if (!seen.isDark(x, y)) {
                figures[parts * FIGURES + PART_BORDER]++;
                return end;
            }
            if (labelAt(x, y) != NONE || end >= CELLS) {
                return end;
            }
            labels[y * SIDE + x] = parts;
            reached[end] = y * SIDE + x;
            return end + 1;
        }

        private void beginFigures(int x, int y) {
            int at = parts * FIGURES;
            figures[at + PART_CELLS] = 0;
            figures[at + PART_BORDER] = 0;
            figures[at + LEAST_X] = x;
            figures[at + LEAST_Y] = y;
            figures[at + GREATEST_X] = x;
            figures[at + GREATEST_Y] = y;
        }

        private void noteFigures(int x, int y) {
            int at = parts * FIGURES;
            figures[at + PART_CELLS]++;
            figures[at + LEAST_X] = Math.min(figures[at + LEAST_X], x);
            figures[at + LEAST_Y] = Math.min(figures[at + LEAST_Y], y);
            figures[at + GREATEST_X] = Math.max(figures[at + GREATEST_X], x);
            figures[at + GREATEST_Y] = Math.max(figures[at + GREATEST_Y], y);
        }

        int labelAt(int x, int y) {
            return x >= 0 && x < SIDE && y >= 0 && y < SIDE ? labels[y * SIDE + x] : NONE;
        }

        int rowOfPart(int part, int y) {
            int bits = 0;
            for (int x = 0; x < SIDE; x++) {
                if (labelAt(x, y) == part) {
                    bits |= 1 << x;
                }
            }
            return bits;
        }

        int figure(int part, int what) {
            return within(part, parts) && within(what, FIGURES) ? figures[part * FIGURES + what] : BAD;
        }

        int partsOffTheEdge() {
            int sum = 0;
            for (int part = 0; part < parts; part++) {
                boolean offLeast = figure(part, LEAST_X) > 0 && figure(part, LEAST_Y) > 0;
                boolean offGreatest = figure(part, GREATEST_X) < SIDE - 1 && figure(part, GREATEST_Y) < SIDE - 1;
                if (offLeast && offGreatest) {
                    sum++;
                }
            }
            return sum;
        }
    }

    /** The last changes, in a ring: of each its mask, and the mask's rows before it. */
    private static final class Changes {
        private final int[] masks = new int[MOST_CHANGES];
        private final int[] rows = new int[MOST_CHANGES * SIDE];
        private int next = 0;
        private int known = 0;

        void keep(int mask, Grid before) {
            int at = Math.floorMod(next, MOST_CHANGES);
            masks[at] = mask;
            for (int y = 0; y < SIDE; y++) {
                rows[at * SIDE + y] = before.row(y);
            }
            next = at + 1;
            known = Math.min(known + 1, MOST_CHANGES);
        }

        /** The mask of the last change; what it was before comes to a grid. NONE if no change is known. */
        int undo(Grid into) {
            if (known == 0) {
                return NONE;
            }
            next = Math.floorMod(next - 1, MOST_CHANGES);
            known--;
            for (int y = 0; y < SIDE; y++) {
                into.setRow(y, rows[next * SIDE + y]);
            }
            return masks[next];
        }
    }

    /** A row of items; it is made once, at its longest, and begun anew for each row that is asked for. */
    private static final class Sheet {
        private final int[] items = new int[MOST_ITEMS];
        private boolean lost = true;
        private int form = BYTES;
        private int size = 0;

        void begin(int newForm, int newSize) {
            lost = false;
            form = newForm;
            size = newSize;
            Arrays.fill(items, 0);
        }

        int item(int i) {
            return within(i, size) && within(i, MOST_ITEMS) ? items[i] : 0;
        }

        void setItem(int i, int v) {
            if (within(i, size) && within(i, MOST_ITEMS)) {
                items[i] = narrowed(v);
            }
        }

        private int narrowed(int v) {
            if (form == BYTES) {
                return (byte) v;
            }
            return form == SHORTS ? (short) v : v;
        }

        /** A subtraction, as from + n could wrap. */
        boolean hasItems(int from, int n) {
            return from >= 0 && n >= 0 && from <= size && n <= size - from;
        }
    }
}
