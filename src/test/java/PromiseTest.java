/**
 * For each promise of the document ordinary calls, its edges and its refusals. The answers are worked out by hand,
 * but for those of 255 dots and of a new object's digest, which the shared tests tell.
 */
final class PromiseTest {
    private static final int LEAST = Integer.MIN_VALUE;
    private static final int MOST = Integer.MAX_VALUE;
    private static final int[] NO_MASK = {-1, 4, LEAST, MOST};
    private static final int[] NO_CELL = {-1, 16, LEAST, MOST};
    private static final Check CHECK = new Check();

    private static QuarterMasks q = new QuarterMasks();
    private static String promise = "";

    public static void main(String[] args) {
        newObject();
        fill();
        dots();
        join();
        over();
        move();
        turn();
        band();
        pick();
        read();
        readNot();
        back();
        cell();
        block();
        blocks();
        shown();
        all();
        label();
        part();
        near();
        both();
        sheet();
        lose();
        lay();
        get();
        copy();
        write();
        count();
        digest();
        objectsApart();
        CHECK.end("PromiseTest");
    }

    private static void begin(String name) {
        promise = name;
        q = new QuarterMasks();
    }

    private static void due(String what, long got, long want) {
        CHECK.due(promise + ": " + what, got, want);
    }

    /** A refusal by BAD changes nothing at all. */
    private static void untouched(int changes, int finding, long digest) {
        due("changes after refusals", q.count(6), changes);
        due("finding after refusals", q.count(8), finding);
        due("digest after refusals", q.digest(), digest);
    }

    private static void newObject() {
        begin("1 new object");
        for (int m = 0; m < 4; m++) {
            due("no dark cell in " + m, q.count(m), 0);
            due("one block in " + m, q.blocks(m, 0), 1);
            due("signs of " + m, q.shown(m, -1), 1);
            due("sign of " + m, q.shown(m, 0), 0);
            due("lost " + m, q.lose(m), -11);
        }
        begin("1 new object");
        due("no change", q.count(6), 0);
        due("no finding", q.count(8), 0);
        due("nothing to undo", q.back(), QuarterMasks.NOT);
        due("NONE", QuarterMasks.NONE, -1);
        due("BAD", QuarterMasks.BAD, -2);
        due("NOT", QuarterMasks.NOT, -3);
    }

    private static void fill() {
        begin("2 fill");
        due("3 by 2", q.fill(1, 4, 5, 3, 2, 1), 6);
        for (int y = 0; y < 16; y++) {
            for (int x = 0; x < 16; x++) {
                int want = x >= 4 && x <= 6 && y >= 5 && y <= 6 ? 1 : 0;
                due("cell " + x + " " + y, q.cell(1, x, y), want);
            }
        }
        due("the other masks", q.count(0) + q.count(2) + q.count(3), 0);
        due("light again", q.fill(1, 5, 0, 1, 16, 0), 4);
        due("light: left stays", q.cell(1, 4, 5), 1);
        due("light: middle", q.cell(1, 5, 5), 0);
        due("width 0", q.fill(1, 0, 0, 0, 16, 1), 4);
        due("height 0", q.fill(1, 0, 0, 16, 0, 1), 4);
        due("these are changes too", q.count(6), 4);
        due("beyond the edge", q.fill(2, 14, 13, 16, 16, 1), 6);
        due("all", q.fill(3, 0, 0, 16, 16, 1), 256);
        long digest = q.digest();
        for (int no : NO_MASK) due("mask " + no, q.fill(no, 0, 0, 1, 1, 1), -2);
        for (int no : NO_CELL) due("x " + no, q.fill(0, no, 0, 1, 1, 1), -2);
        for (int no : NO_CELL) due("y " + no, q.fill(0, 0, no, 1, 1, 1), -2);
        for (int no : new int[] {-1, 17, LEAST, MOST}) {
            due("w " + no, q.fill(0, 0, 0, no, 1, 1), -2);
            due("h " + no, q.fill(0, 0, 0, 1, no, 1), -2);
        }
        for (int no : new int[] {-1, 2, LEAST, MOST}) due("v " + no, q.fill(0, 0, 0, 1, 1, no), -2);
        untouched(6, 0, digest);
    }

    private static void dots() {
        begin("3 dots");
        // seed 0 becomes 12345, whose upper half is 0: the cell 0, 0.
        due("seed 0", q.dots(0, 0, 1), 1);
        due("seed 0's cell", q.cell(0, 0, 0), 1);
        due("the same dot again turns it back", q.dots(0, 0, 1), 0);
        // seed 1 becomes 1103527590 = 16838 * 65536 + 32422, and 16838 % 256 = 198 = 12 * 16 + 6.
        due("seed 1", q.dots(0, 1, 1), 1);
        due("seed 1's cell", q.cell(0, 6, 12), 1);
        // seed -1 becomes -1103502900, whose upper half is 48697, and 48697 % 256 = 57 = 3 * 16 + 9.
        due("seed -1", q.dots(1, -1, 1), 1);
        due("seed -1's cell", q.cell(1, 9, 3), 1);
        due("255 dots", q.dots(2, 7, 255), 113);
        due("no dots", q.dots(2, 7, 0), 113);
        due("changes", q.count(6), 6);
        long digest = q.digest();
        for (int no : NO_MASK) due("mask " + no, q.dots(no, 0, 1), -2);
        for (int no : new int[] {-1, 256, LEAST, MOST}) due("n " + no, q.dots(0, 0, no), -2);
        untouched(6, 0, digest);
    }

    private static void join() {
        begin("4 join");
        q.fill(0, 0, 0, 4, 1, 1);
        q.fill(1, 2, 0, 4, 1, 1);
        int[][] want = {{1, 1, 1, 1, 1, 1, 0}, {0, 0, 1, 1, 0, 0, 0}, {1, 1, 0, 0, 0, 0, 0}, {1, 1, 0, 0, 1, 1, 0}};
        int[] dark = {6, 2, 2, 4};
        for (int kind = 0; kind < 4; kind++) {
            due("kind " + kind, q.join(kind, 0, 1, 2), dark[kind]);
            for (int x = 0; x < 7; x++) due("kind " + kind + " at " + x, q.cell(2, x, 0), want[kind][x]);
        }
        due("b less a", q.join(2, 1, 0, 3), 2);
        due("b less a at 5", q.cell(3, 5, 0), 1);
        due("into a", q.join(2, 0, 1, 0), 2);
        due("into b", q.join(0, 0, 1, 1), 6);
        due("with itself", q.join(3, 1, 1, 1), 0);
        long digest = q.digest();
        for (int no : NO_MASK) {
            due("kind " + no, q.join(no, 0, 0, 0), -2);
            due("a " + no, q.join(0, no, 0, 0), -2);
            due("b " + no, q.join(0, 0, no, 0), -2);
            due("to " + no, q.join(0, 0, 0, no), -2);
        }
        untouched(10, 0, digest);
    }

    private static void over() {
        begin("5 over");
        due("of light", q.over(0, 1), 256);
        q.fill(0, 3, 3, 2, 2, 1);
        due("into another", q.over(0, 2), 252);
        due("a stays", q.count(0), 4);
        due("hole", q.cell(2, 4, 4), 0);
        due("around", q.cell(2, 5, 4), 1);
        due("into itself", q.over(2, 2), 4);
        due("as a", q.both(0, 2, 0), 1);
        long digest = q.digest();
        for (int no : NO_MASK) {
            due("a " + no, q.over(no, 0), -2);
            due("to " + no, q.over(0, no), -2);
        }
        untouched(4, 0, digest);
    }

    private static void move() {
        begin("6 move");
        q.fill(0, 1, 2, 2, 1, 1);
        due("right and down", q.move(0, 3, 4, 1), 2);
        due("its cells", q.cell(1, 4, 6) + q.cell(1, 5, 6), 2);
        due("left, partly gone", q.move(0, -2, 0, 1), 1);
        due("its cell", q.cell(1, 0, 2), 1);
        due("up, gone", q.move(0, 0, -3, 1), 0);
        due("to the far edge", q.move(0, 13, 13, 1), 2);
        due("its last cell", q.cell(1, 15, 15), 1);
        due("beyond it by one", q.move(0, 14, 0, 1), 1);
        q.fill(2, 0, 0, 16, 16, 1);
        int[][] moves = {{16, 0}, {-16, 0}, {0, 16}, {0, -16}, {16, 16}, {-16, -16}};
        for (int[] by : moves) due("all gone by " + by[0] + " " + by[1], q.move(2, by[0], by[1], 3), 0);
        due("by 15 and -15", q.move(2, 15, -15, 3), 1);
        due("its cell", q.cell(3, 15, 0), 1);
        due("by nothing", q.move(0, 0, 0, 0), 2);
        due("into itself", q.move(2, 1, 1, 2), 225);
        due("light where nothing came from", q.cell(2, 0, 5) + q.cell(2, 5, 0), 0);
        long digest = q.digest();
        int changes = q.count(6);
        for (int no : NO_MASK) {
            due("a " + no, q.move(no, 0, 0, 0), -2);
            due("to " + no, q.move(0, 0, 0, no), -2);
        }
        for (int no : new int[] {-17, 17, LEAST, MOST}) {
            due("dx " + no, q.move(0, no, 0, 0), -2);
            due("dy " + no, q.move(0, 0, no, 0), -2);
        }
        untouched(changes, 0, digest);
    }

    private static void turn() {
        begin("7 turn");
        q.fill(0, 1, 0, 3, 1, 1);
        q.fill(0, 1, 0, 1, 2, 1);
        due("not at all", q.turn(0, 0, 1), 4);
        due("alike", q.both(0, 1, 0), 1);
        due("once", q.turn(0, 1, 1), 4);
        due("once: the top row is the right edge", q.cell(1, 15, 1) + q.cell(1, 15, 2) + q.cell(1, 15, 3), 3);
        due("once: the foot", q.cell(1, 14, 1), 1);
        due("twice", q.turn(0, 2, 1), 4);
        due("twice: cells", q.cell(1, 14, 15) + q.cell(1, 12, 15) + q.cell(1, 14, 14), 3);
        due("thrice", q.turn(0, 3, 1), 4);
        due("thrice: cells", q.cell(1, 0, 14) + q.cell(1, 0, 12) + q.cell(1, 1, 14), 3);
        due("into itself", q.turn(1, 1, 1), 4);
        due("whole round", q.both(0, 1, 0), 1);
        long digest = q.digest();
        for (int no : NO_MASK) {
            due("a " + no, q.turn(no, 0, 0), -2);
            due("times " + no, q.turn(0, no, 0), -2);
            due("to " + no, q.turn(0, 0, no), -2);
        }
        untouched(7, 0, digest);
    }

    private static void band() {
        begin("8 band");
        due("of light", q.band(0, 30, 1), 0);
        q.fill(0, 7, 7, 1, 1, 1);
        due("0", q.band(0, 0, 1), 1);
        due("1", q.band(0, 1, 1), 5);
        due("2", q.band(0, 2, 1), 13);
        due("2: straight", q.cell(1, 9, 7), 1);
        due("2: slanting", q.cell(1, 8, 8), 1);
        due("2: too far", q.cell(1, 9, 8), 0);
        q.fill(2, 0, 0, 1, 1, 1);
        due("at a corner", q.band(2, 1, 3), 3);
        due("29 from a corner", q.band(2, 29, 3), 255);
        due("30 from a corner", q.band(2, 30, 3), 256);
        q.fill(2, 15, 0, 1, 1, 1);
        due("no way round the edge", q.band(2, 1, 3), 6);
        due("into itself", q.band(2, 1, 2), 6);
        long digest = q.digest();
        int changes = q.count(6);
        for (int no : NO_MASK) {
            due("a " + no, q.band(no, 0, 0), -2);
            due("to " + no, q.band(0, 0, no), -2);
        }
        for (int no : new int[] {-1, 31, LEAST, MOST}) due("d " + no, q.band(0, no, 0), -2);
        untouched(changes, 0, digest);
    }

    private static void pick() {
        begin("9 pick");
        q.fill(0, 0, 0, 2, 2, 1);
        q.fill(0, 2, 2, 3, 1, 1);
        due("first", q.pick(0, 1, 1, 1), 4);
        due("a corner is no neighbour", q.cell(1, 2, 2), 0);
        due("second", q.pick(0, 4, 2, 1), 3);
        due("its cells alone", q.cell(1, 2, 2) + 10 * q.cell(1, 0, 0), 1);
        due("light", q.pick(0, 5, 2, 1), -3);
        due("into itself", q.pick(0, 0, 0, 0), 4);
        long digest = q.digest();
        due("BAD ahead of NOT", q.pick(0, 9, 9, 4), -2);
        for (int no : NO_MASK) {
            due("a " + no, q.pick(no, 0, 0, 0), -2);
            due("to " + no, q.pick(0, 0, 0, no), -2);
        }
        for (int no : NO_CELL) {
            due("x " + no, q.pick(0, no, 0, 0), -2);
            due("y " + no, q.pick(0, 0, no, 0), -2);
        }
        due("NOT", q.pick(0, 15, 15, 0), -3);
        untouched(5, 0, digest);
    }

    private static void layAll(int s, int form, int... items) {
        q.sheet(s, form, items.length);
        for (int i = 0; i < items.length; i++) due("lay", q.lay(s, form, i, items[i]), 1);
    }

    private static void read() {
        begin("10 read");
        layAll(0, 2, 1);
        due("one dark block", q.read(0, 0), 1);
        due("all dark", q.count(0), 256);
        layAll(0, 0, 2, 0, 1, 0, 2, 0, 0, 0, 1);
        due("nine signs", q.read(0, 0), 9);
        due("quarter 1", q.cell(0, 8, 0) + q.cell(0, 15, 7), 2);
        due("quarter 3 of 3", q.cell(0, 12, 12), 1);
        due("dark cells", q.count(0), 80);
        layAll(1, 1, 2, 1, 0, 1, 0, 7, -1);
        due("others behind it", q.read(1, 1), 5);
        due("left half", q.cell(1, 7, 0) + q.cell(1, 0, 15) + q.cell(1, 8, 0), 2);
        layAll(1, 2, 2, 1, 1, 1, 1);
        due("four like blocks", q.read(1, 1), 5);
        due("are one", q.shown(1, -1), 1);
        layAll(1, 2, 2, 2, 0, 0, 0, 0, 0, 0, 0);
        due("four like blocks within", q.read(1, 1), 9);
        due("are one light one", q.shown(1, 0), 0);
        layAll(2, 0, 2, 2, 2, 2, 1, 0, 0, 0, 0, 0, 0, 0, 0, 0, 0, 0, 0);
        due("down to a cell", q.read(2, 2), 17);
        due("that cell", q.cell(2, 0, 0) + q.count(2), 2);
        layAll(2, 0, 258, 256, 257, 0, 1);
        due("lowest bits", q.read(2, 2), 5);
        due("two quarters", q.count(2), 128);
        due("changes", q.count(6), 7);
        due("undone", q.back(), 6);
        due("as before", q.count(2), 1);
    }

    private static void readNot() {
        begin("10 read, refused");
        q.fill(3, 0, 0, 3, 3, 1);
        layAll(0, 2, 2, 1, 1, 1);
        layAll(1, 2, 2, 2, 2, 2, 2, 0, 0, 0, 0, 0, 0, 0, 0, 0, 0, 0, 0, 0, 0, 0, 0);
        layAll(2, 2, 3);
        long digest = q.digest();
        due("not whole", q.read(3, 0), -3);
        due("a mixed cell", q.read(3, 1), -3);
        due("no sign", q.read(3, 2), -3);
        q.lay(2, 2, 0, -1);
        due("no sign below 0", q.read(3, 2), -3);
        q.lay(2, 2, 0, 256);
        due("an int keeps its bits", q.read(3, 2), -3);
        q.sheet(2, 0, 0);
        due("no items", q.read(3, 2), -3);
        for (int no : NO_MASK) {
            due("mask " + no, q.read(no, 3), -2);
            due("sheet " + no, q.read(3, no), -2);
        }
        untouched(1, 0, digest);
        due("NULL", q.read(3, 3), -11);
        untouched(1, 1, digest);
    }

    private static void back() {
        begin("11 back");
        due("none", q.back(), -3);
        for (int i = 0; i < 45; i++) q.fill(i % 4, i % 16, i / 16, 1, 1, 1);
        due("40 are known", q.count(6), 40);
        for (int i = 44; i >= 5; i--) {
            due("dark before " + i, q.cell(i % 4, i % 16, i / 16), 1);
            due("undone " + i, q.back(), i - 5);
            due("light after " + i, q.cell(i % 4, i % 16, i / 16), 0);
        }
        due("no more", q.back(), -3);
        due("the first five stay", q.count(0) + q.count(1) + q.count(2) + q.count(3), 5);
        due("NOT is no finding", q.count(8), 0);
        q.over(0, 0);
        q.fill(0, 0, 0, 0, 0, 1);
        due("a change to the same", q.back(), 1);
        due("still turned over", q.count(0), 254);
        due("another", q.back(), 0);
        due("turned back", q.count(0), 2);
        q.sheet(0, 2, 1);
        q.lay(0, 2, 0, 5);
        due("sheets are no changes", q.count(6), 0);
        q.fill(1, 0, 0, 16, 16, 1);
        q.back();
        due("sheets stay", q.get(0, 2, 0), 5);
        due("findings stay", q.lose(3), -11);
        q.fill(1, 0, 0, 16, 16, 1);
        q.back();
        due("the finding", q.count(8), 1);
    }

    private static void cell() {
        begin("12 cell");
        q.fill(3, 15, 0, 1, 1, 1);
        due("dark", q.cell(3, 15, 0), 1);
        due("light", q.cell(3, 0, 15), 0);
        for (int no : NO_MASK) due("mask " + no, q.cell(no, 0, 0), -2);
        for (int no : NO_CELL) {
            due("x " + no, q.cell(0, no, 0), -2);
            due("y " + no, q.cell(0, 0, no), -2);
        }
    }

    private static void block() {
        begin("13 block");
        due("whole", q.block(0, 9, 9, 0) + q.block(0, 9, 9, 1), 0);
        due("whole: side", q.block(0, 9, 9, 2), 16);
        q.fill(0, 12, 4, 1, 1, 1);
        int[][] rows = {{3, 3, 0, 0, 8}, {3, 12, 0, 8, 8}, {15, 15, 8, 8, 8}, {9, 3, 8, 0, 4}, {15, 3, 12, 0, 4},
            {9, 7, 8, 4, 4}, {12, 4, 12, 4, 1}, {13, 4, 13, 4, 1}, {13, 5, 13, 5, 1}, {14, 4, 14, 4, 2}, {13, 7, 12, 6, 2}};
        for (int[] r : rows) {
            for (int what = 0; what < 3; what++) {
                due("of " + r[0] + " " + r[1] + ", " + what, q.block(0, r[0], r[1], what), r[2 + what]);
            }
        }
        for (int no : NO_MASK) due("mask " + no, q.block(no, 0, 0, 0), -2);
        for (int no : NO_CELL) {
            due("x " + no, q.block(0, no, 0, 0), -2);
            due("y " + no, q.block(0, 0, no, 0), -2);
        }
        for (int no : new int[] {-1, 3, LEAST, MOST}) due("what " + no, q.block(0, 0, 0, no), -2);
    }

    private static void blocksAre(String name, int mask, int all, int dark, int mixed, int deepest) {
        due(name + ": blocks", q.blocks(mask, 0), all);
        due(name + ": dark ones", q.blocks(mask, 1), dark);
        due(name + ": mixed ones", q.blocks(mask, 2), mixed);
        due(name + ": one within another", q.blocks(mask, 3), deepest);
    }

    /** A cell and then each second one, so that no square but a cell is a block. */
    private static void chequer(int mask) {
        for (int y = 0; y < 16; y++) for (int x = y % 2; x < 16; x += 2) q.fill(mask, x, y, 1, 1, 1);
    }

    private static void blocks() {
        begin("14 blocks");
        blocksAre("light", 0, 1, 0, 0, 0);
        q.fill(0, 0, 0, 16, 16, 1);
        blocksAre("dark", 0, 1, 1, 0, 0);
        q.fill(0, 0, 8, 8, 8, 0);
        blocksAre("a quarter light", 0, 4, 3, 1, 1);
        q.fill(1, 0, 0, 4, 4, 1);
        q.fill(1, 12, 12, 4, 4, 1);
        blocksAre("two mixed side by side", 1, 10, 2, 3, 2);
        q.fill(2, 15, 15, 1, 1, 1);
        blocksAre("a cell", 2, 13, 1, 4, 4);
        chequer(3);
        blocksAre("chequered", 3, 256, 128, 85, 4);
        for (int no : NO_MASK) {
            due("mask " + no, q.blocks(no, 0), -2);
            due("what " + no, q.blocks(0, no), -2);
        }
    }

    private static void shown() {
        begin("15 shown");
        q.fill(0, 8, 0, 8, 8, 1);
        q.fill(0, 0, 8, 4, 4, 1);
        int[] signs = {2, 0, 1, 2, 1, 0, 0, 0, 0};
        due("how many", q.shown(0, -1), signs.length);
        for (int i = 0; i < signs.length; i++) due("sign " + i, q.shown(0, i), signs[i]);
        due("none behind them", q.shown(0, 9), -1);
        due("none at 340", q.shown(0, 340), -1);
        chequer(1);
        due("chequered", q.shown(1, -1), 341);
        due("chequered, last", q.shown(1, 340), 1);
        due("chequered, one before", q.shown(1, 339), 0);
        due("chequered, first", q.shown(1, 0) + q.shown(1, 3), 4);
        due("chequered, first cells", q.shown(1, 4), 1);
        for (int no : NO_MASK) due("mask " + no, q.shown(no, 0), -2);
        for (int no : new int[] {-2, 341, LEAST, MOST}) due("i " + no, q.shown(0, no), -2);
    }

    private static void all() {
        begin("16 all");
        for (int what = 0; what < 4; what++) due("light " + what, q.all(0, what), 0);
        q.fill(0, 0, 0, 16, 16, 1);
        int[] dark = {1, 64, 0, 256};
        for (int what = 0; what < 4; what++) due("dark " + what, q.all(0, what), dark[what]);
        q.fill(1, 2, 2, 3, 3, 1);
        q.fill(1, 3, 3, 1, 1, 0);
        int[] ring = {1, 16, 1, 8};
        for (int what = 0; what < 4; what++) due("ring " + what, q.all(1, what), ring[what]);
        q.fill(1, 2, 2, 1, 1, 0);
        due("no way out over a corner", q.all(1, 2), 1);
        q.fill(1, 3, 2, 1, 1, 0);
        due("a way out", q.all(1, 2), 0);
        q.fill(2, 0, 0, 2, 2, 1);
        q.fill(2, 0, 0, 1, 1, 0);
        due("at the edge is no hole", q.all(2, 2), 0);
        q.over(2, 2);
        q.fill(2, 4, 4, 2, 2, 0);
        q.fill(2, 6, 6, 1, 1, 0);
        due("holes at a corner of each other", q.all(2, 2), 2);
        chequer(3);
        int[] board = {128, 512, 98, 128};
        for (int what = 0; what < 4; what++) due("chequered " + what, q.all(3, what), board[what]);
        for (int no : NO_MASK) {
            due("mask " + no, q.all(no, 0), -2);
            due("what " + no, q.all(0, no), -2);
        }
    }

    /** Three parts; the first by y begins to the right of the others, and one comes first by a cell far from its rest. */
    private static void threeParts() {
        q.fill(0, 9, 1, 1, 1, 1);
        q.fill(0, 5, 2, 1, 4, 1);
        q.fill(0, 0, 5, 6, 1, 1);
        q.fill(0, 2, 3, 2, 1, 1);
        q.fill(1, 0, 0, 16, 1, 1);
    }

    /** A part whose left arm hangs on its first cell from below alone, and a cell of its own between the arms. */
    private static void cup(int mask) {
        q.fill(mask, 7, 5, 1, 4, 1);
        q.fill(mask, 3, 6, 1, 3, 1);
        q.fill(mask, 3, 8, 5, 1, 1);
        q.fill(mask, 5, 6, 1, 1, 1);
    }

    private static void label() {
        begin("17 label");
        threeParts();
        due("first", q.label(0, 9, 1), 0);
        due("second, its first cell", q.label(0, 5, 2), 1);
        due("second, its last row", q.label(0, 0, 5), 1);
        due("third", q.label(0, 2, 3) + q.label(0, 3, 3), 4);
        due("light", q.label(0, 0, 0), -1);
        due("another mask", q.label(1, 15, 0), 0);
        due("and the first again", q.label(0, 15, 0), -1);
        q.fill(0, 9, 1, 1, 1, 0);
        due("numbered anew", q.label(0, 5, 2), 0);
        q.back();
        due("and as before", q.label(0, 5, 2), 1);
        cup(3);
        due("the arm that is come to from below", q.label(3, 3, 6), 0);
        due("what stands in the cup", q.label(3, 5, 6), 1);
        chequer(2);
        due("the last of 128", q.label(2, 15, 15), 127);
        for (int no : NO_MASK) due("mask " + no, q.label(no, 0, 0), -2);
        for (int no : NO_CELL) {
            due("x " + no, q.label(0, no, 0), -2);
            due("y " + no, q.label(0, 0, no), -2);
        }
    }

    private static void part() {
        begin("18 part");
        threeParts();
        int[][] want = {{1, 4, 9, 1, 9, 1}, {9, 20, 0, 2, 5, 5}, {2, 6, 2, 3, 3, 3}};
        for (int p = 0; p < 3; p++) {
            for (int what = 0; what < 6; what++) due("part " + p + ", " + what, q.part(0, p, what), want[p][what]);
        }
        due("no fourth", q.part(0, 3, 0), -2);
        due("one in the other mask", q.part(1, 1, 0), -2);
        due("its border at the edge", q.part(1, 0, 1), 34);
        due("none in a light mask", q.part(2, 0, 0), -2);
        cup(2);
        int[] arms = {10, 22, 3, 5, 7, 8};
        for (int what = 0; what < 6; what++) due("cup, " + what, q.part(2, 0, what), arms[what]);
        due("what stands in it", q.part(2, 1, 1), 4);
        due("no more", q.part(2, 2, 0), -2);
        chequer(3);
        due("the 128th", q.part(3, 127, 4), 15);
        due("no 129th", q.part(3, 128, 4), -2);
        for (int no : NO_MASK) {
            due("mask " + no, q.part(no, 0, 0), -2);
            due("part " + no, q.part(0, no, 0), -2);
        }
        for (int no : new int[] {-1, 6, LEAST, MOST}) due("what " + no, q.part(0, 0, no), -2);
    }

    private static void near() {
        begin("19 near");
        due("none", q.near(0, 3, 3), -1);
        q.fill(0, 15, 15, 1, 1, 1);
        due("the farthest", q.near(0, 0, 0), 30);
        due("itself", q.near(0, 15, 15), 0);
        due("x alone", q.near(0, 10, 15), 5);
        due("y alone", q.near(0, 15, 10), 5);
        q.fill(0, 3, 0, 1, 1, 1);
        due("to the right", q.near(0, 0, 0), 3);
        due("to the left", q.near(0, 8, 0), 5);
        due("above", q.near(0, 3, 9), 9);
        due("slanting", q.near(0, 5, 4), 6);
        for (int no : NO_MASK) due("mask " + no, q.near(no, 0, 0), -2);
        for (int no : NO_CELL) {
            due("x " + no, q.near(0, no, 0), -2);
            due("y " + no, q.near(0, 0, no), -2);
        }
    }

    private static void bothAre(int a, int b, int alike, int inside, int shared, int beside) {
        due(a + " and " + b + " alike", q.both(a, b, 0), alike);
        due(a + " inside " + b, q.both(a, b, 1), inside);
        due(a + " and " + b + " shared", q.both(a, b, 2), shared);
        due(a + " beside " + b, q.both(a, b, 3), beside);
    }

    private static void both() {
        begin("20 both");
        bothAre(0, 1, 1, 1, 0, 0);
        q.fill(0, 4, 4, 2, 1, 1);
        q.fill(1, 4, 4, 1, 1, 1);
        bothAre(0, 1, 0, 0, 1, 1);
        bothAre(1, 0, 0, 1, 1, 1);
        bothAre(0, 0, 1, 1, 2, 1);
        bothAre(1, 1, 1, 1, 1, 0);
        bothAre(2, 0, 0, 1, 0, 0);
        bothAre(0, 2, 0, 0, 0, 0);
        q.fill(2, 5, 5, 1, 1, 1);
        bothAre(1, 2, 0, 0, 0, 0);
        bothAre(0, 2, 0, 0, 0, 1);
        q.fill(3, 15, 3, 1, 1, 1);
        q.fill(2, 0, 4, 1, 1, 1);
        due("no way round the edge", q.both(3, 2, 3), 0);
        for (int no : NO_MASK) {
            due("a " + no, q.both(no, 0, 0), -2);
            due("b " + no, q.both(0, no, 0), -2);
            due("what " + no, q.both(0, 0, no), -2);
        }
    }

    private static void sheet() {
        begin("21 sheet");
        due("bytes", q.sheet(0, 0, 60), 60);
        due("none", q.sheet(1, 1, 0), 0);
        due("ints", q.sheet(3, 2, 3), 3);
        due("0 at first", q.get(3, 2, 2), 0);
        q.lay(3, 2, 2, 9);
        due("anew", q.sheet(3, 2, 3), 3);
        due("0 again", q.get(3, 2, 2), 0);
        due("another form", q.sheet(3, 1, 3), 3);
        due("it has it", q.get(3, 1, 2), 0);
        for (int no : NO_MASK) due("sheet " + no, q.sheet(no, 0, 1), -2);
        for (int no : new int[] {-1, 3, LEAST, MOST}) due("form " + no, q.sheet(0, no, 1), -2);
        due("above 60", q.sheet(0, 0, 61), -2);
        due("far above 60", q.sheet(0, 0, MOST), -2);
        due("no finding", q.count(8), 0);
        due("BAD sheet ahead of SIZE", q.sheet(4, 0, -1), -2);
        due("BAD form ahead of SIZE", q.sheet(0, 3, -1), -2);
        due("SIZE", q.sheet(0, 2, -1), -15);
        due("SIZE, far below", q.sheet(0, 2, LEAST), -15);
        due("the finding", q.count(8), 5);
        due("the sheet stays", q.lose(0), 60);
    }

    private static void lose() {
        begin("22 lose");
        q.sheet(2, 1, 17);
        due("lost", q.lose(2), 17);
        due("NULL", q.lose(2), -11);
        due("the finding", q.count(8), 1);
        q.sheet(2, 1, 0);
        due("of no items", q.lose(2), 0);
        for (int no : NO_MASK) due("sheet " + no, q.lose(no), -2);
    }

    private static void lay() {
        begin("23 lay");
        int[] values = {0, 127, 128, 255, 256, -1, -128, -129, 32767, 32768, 65535, 65536, -32769, MOST, LEAST};
        for (int form = 0; form < 3; form++) {
            q.sheet(form, form, values.length);
            for (int i = 0; i < values.length; i++) {
                int v = values[i];
                due("lay " + v, q.lay(form, form, i, v), 1);
                due("got " + v, q.get(form, form, i), form == 0 ? (byte) v : form == 1 ? (short) v : v);
            }
        }
        due("no finding", q.count(8), 0);
        for (int no : NO_MASK) due("sheet " + no, q.lay(no, 0, 0, 0), -2);
        for (int no : new int[] {-1, 3, LEAST, MOST}) due("form " + no, q.lay(0, no, 0, 0), -2);
        due("BAD ahead of NULL", q.lay(3, 3, 0, 0), -2);
        due("BAD is no finding", q.count(8), 0);
        due("NULL", q.lay(3, 0, 99, 0), -11);
        due("CAST, ahead of INDEX", q.lay(0, 1, 99, 0), -13);
        due("the finding", q.count(8), 3);
        for (int no : new int[] {-1, values.length, LEAST, MOST}) due("INDEX " + no, q.lay(0, 0, no, 0), -12);
        due("the finding", q.count(8), 2);
        q.sheet(3, 0, 0);
        due("INDEX of no items", q.lay(3, 0, 0, 0), -12);
        due("nothing is laid", q.get(0, 0, 1), 127);
    }

    private static void get() {
        begin("24 get");
        q.sheet(0, 1, 2);
        q.lay(0, 1, 1, -5);
        due("item", q.get(0, 1, 1), -5);
        for (int no : NO_MASK) due("sheet " + no, q.get(no, 0, 0), LEAST);
        for (int no : new int[] {-1, 3, LEAST, MOST}) due("form " + no, q.get(0, no, 0), LEAST);
        due("BAD is no finding", q.count(8), 0);
        due("NULL", q.get(1, 0, 0), LEAST);
        due("NULL told", q.count(8), 1);
        due("CAST, ahead of INDEX", q.get(0, 2, 2), LEAST);
        due("CAST told", q.count(8), 3);
        for (int no : new int[] {-1, 2, LEAST, MOST}) due("INDEX " + no, q.get(0, 1, no), LEAST);
        due("INDEX told", q.count(8), 2);
        due("an item", q.get(0, 1, 0), 0);
        due("is no finding", q.count(8), 2);
    }

    private static void itemsAre(String what, int s, int form, int... items) {
        for (int i = 0; i < items.length; i++) due(what + " at " + i, q.get(s, form, i), items[i]);
    }

    private static void copy() {
        begin("25 copy");
        layAll(0, 2, 1, 2, 3, 4, 5);
        q.sheet(1, 2, 4);
        due("to another", q.copy(0, 1, 1, 2, 2), 1);
        itemsAre("another", 1, 2, 0, 0, 2, 3);
        due("to the right within", q.copy(0, 0, 0, 1, 4), 1);
        itemsAre("right", 0, 2, 1, 1, 2, 3, 4);
        due("to the left within", q.copy(0, 2, 0, 0, 3), 1);
        itemsAre("left", 0, 2, 2, 3, 4, 3, 4);
        due("nothing, at the ends", q.copy(0, 5, 1, 4, 0), 1);
        due("no finding", q.count(8), 0);
        for (int no : NO_MASK) {
            due("s " + no, q.copy(no, 0, 3, 0, 0), -2);
            due("t " + no, q.copy(3, 0, no, 0, 0), -2);
        }
        due("BAD is no finding", q.count(8), 0);
        due("NULL s", q.copy(3, 0, 0, 0, 1), -11);
        due("NULL t", q.copy(0, 0, 3, 0, 1), -11);
        due("NULL ahead of INDEX", q.copy(3, -1, 3, -1, -1), -11);
        q.sheet(2, 1, 5);
        due("STORE, ahead of INDEX", q.copy(0, -1, 2, 0, 1), -14);
        due("STORE with none", q.copy(2, 0, 0, 0, 0), -14);
        due("the finding", q.count(8), 4);
        int[][] wrong = {{-1, 0, 1}, {0, -1, 1}, {0, 0, -1}, {0, 0, 5}, {1, 0, 5}, {3, 0, 3}, {0, 2, 3}, {6, 0, 0},
            {0, 5, 0}, {-1, 0, 0}, {0, -1, 0}, {1, 1, MOST}, {MOST, 0, 1}, {0, MOST, 1}, {LEAST, 0, LEAST}, {0, 0, LEAST}};
        for (int[] w : wrong) due("INDEX " + w[0] + " " + w[1] + " " + w[2], q.copy(0, w[0], 1, w[1], w[2]), -12);
        due("the finding", q.count(8), 2);
        itemsAre("nothing came", 1, 2, 0, 0, 2, 3);
    }

    private static void write() {
        begin("26 write");
        q.fill(0, 0, 0, 8, 8, 1);
        q.fill(0, 12, 12, 4, 4, 1);
        layAll(0, 0, 9, 9, 9, 9, 9, 9, 9, 9, 9, 9, 9);
        due("all signs", q.write(0, 0, 0), 9);
        itemsAre("all", 0, 0, 2, 1, 0, 0, 2, 0, 0, 0, 1, 9, 9);
        layAll(1, 1, 9, 9, 9);
        due("as many as there are items", q.write(0, 0, 1), 3);
        itemsAre("three", 1, 1, 2, 1, 0);
        due("from the 8th on", q.write(0, 8, 1), 1);
        itemsAre("one", 1, 1, 1, 1, 0);
        due("behind the last", q.write(0, 9, 1), 0);
        due("far behind it", q.write(0, 340, 1), 0);
        itemsAre("none", 1, 1, 1, 1, 0);
        q.sheet(2, 2, 0);
        due("no items", q.write(0, 0, 2), 0);
        due("read as written", q.read(1, 0), 9);
        due("alike", q.both(0, 1, 0), 1);
        chequer(2);
        layAll(1, 2, 9, 9, 9);
        due("the last signs", q.write(2, 339, 1), 2);
        itemsAre("last", 1, 2, 0, 1, 9);
        for (int no : NO_MASK) {
            due("mask " + no, q.write(no, 0, 3), -2);
            due("sheet " + no, q.write(0, 0, no), -2);
        }
        for (int no : new int[] {-1, 341, LEAST, MOST}) due("i " + no, q.write(0, no, 3), -2);
        due("BAD is no finding", q.count(8), 0);
        due("NULL", q.write(0, 0, 3), -11);
        due("the finding", q.count(8), 1);
    }

    private static void count() {
        begin("27 count");
        int[] first = {0, 0, 0, 0, 4, 0, 0, 0, 0};
        for (int what = 0; what < 9; what++) due("first " + what, q.count(what), first[what]);
        q.fill(0, 0, 0, 16, 16, 1);
        q.fill(1, 0, 0, 8, 8, 1);
        q.fill(2, 4, 0, 8, 8, 1);
        q.fill(3, 0, 0, 5, 1, 1);
        q.fill(3, 7, 0, 1, 1, 1);
        q.lose(0);
        // Mask 2: two whole quarters, two of four blocks each. Mask 3: three whole quarters, two whole ones in the
        // first, and two of four by four with two whole ones and eight cells each.
        int[] want = {256, 64, 64, 6, 1 + 4 + 10 + 25, 1 + 1 + 1 + 2, 5, 2, 1};
        for (int what = 0; what < 9; what++) due("" + what, q.count(what), want[what]);
        for (int no : new int[] {-1, 9, LEAST, MOST}) due("what " + no, q.count(no), -2);
    }

    private static void digest() {
        begin("28 digest");
        due("of a new object", q.digest(), 8530256629424359813L);
        for (int m = 0; m < 4; m++) q.dots(m, 31 * m + 5, 60 * m + 1);
        q.pick(3, q.part(3, 1, 2), q.part(3, 1, 3), 2);
        long before = q.digest();
        q.lose(0);
        due("findings are not in it", q.digest(), before);
        q.sheet(0, 0, 4);
        due("nor are sheets", q.digest(), before);
        due("it is no change", q.count(6), 5);
        q.fill(0, 0, 0, 0, 0, 0);
        CHECK.holds("28 digest: changes are in it", q.digest() != before);
    }

    private static void objectsApart() {
        begin("objects apart");
        QuarterMasks other = new QuarterMasks();
        q.fill(0, 0, 0, 4, 4, 1);
        q.sheet(0, 0, 4);
        q.lose(1);
        due("masks", other.count(0), 0);
        due("changes", other.count(6), 0);
        due("findings", other.count(8), 0);
        due("sheets", other.lose(0), -11);
    }
}
