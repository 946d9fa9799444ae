/** The boundary cases of promises 12 to 20, what is asked of masks, a test for each sentence. */
final class AskBoundaryTest {
    private static final int LEAST = Sentences.LEAST;
    private static final int MOST = Sentences.MOST;
    private static final int[] NO_MASK = {-1, 4, LEAST, MOST};
    private static final int[] NO_CELL = {-1, 16, LEAST, MOST};
    private static final Sentences S = new Sentences("AskBoundaryTest");

    public static void main(String[] args) {
        cell();
        cellBad();
        block();
        blockBad();
        blocks();
        blocksWithin();
        blocksBad();
        shownHowMany();
        shownTheIth();
        shownBad();
        allParts();
        allBorder();
        allHoles();
        allDark();
        allBad();
        label();
        labelNone();
        labelBad();
        partFigures();
        partBad();
        near();
        nearNone();
        nearBad();
        bothAlike();
        bothWithin();
        bothDark();
        bothBeside();
        bothBad();
        S.end("12", "13", "14", "15", "16", "17", "18", "19", "20");
    }

    private static void cell() {
        QuarterMasks q = S.of("12", "Whether a CELL is dark: 1, 0.");
        int[][] corners = {{0, 0}, {15, 0}, {0, 15}, {15, 15}};
        for (int m = 0; m < 4; m++) q.fill(m, corners[m][0], corners[m][1], 1, 1, 1);
        for (int m = 0; m < 4; m++) {
            for (int c = 0; c < 4; c++) {
                S.due("mask " + m + ", corner " + c, q.cell(m, corners[c][0], corners[c][1]), m == c ? 1 : 0);
            }
        }
    }

    private static void cellBad() {
        S.of("12", "BAD");
        for (int no : NO_MASK) S.refused("mask " + no, q -> q.cell(no, 0, 0), -2);
        for (int no : NO_CELL) {
            S.refused("x " + no, q -> q.cell(3, no, 0), -2);
            S.refused("y " + no, q -> q.cell(3, 0, no), -2);
        }
    }

    private static void blockIs(QuarterMasks q, int mask, int x, int y, int left, int top, int side) {
        S.due("of " + x + " " + y + ", x", q.block(mask, x, y, 0), left);
        S.due("of " + x + " " + y + ", y", q.block(mask, x, y, 1), top);
        S.due("of " + x + " " + y + ", side", q.block(mask, x, y, 2), side);
    }

    private static void block() {
        QuarterMasks q = S.of("13",
            "Of the BLOCK in which a CELL is the least x (what = 0), least y (1), how many CELLS a side has (2).");
        blockIs(q, 0, 0, 0, 0, 0, 16);
        blockIs(q, 0, 15, 15, 0, 0, 16);
        q.fill(0, 0, 0, 16, 16, 1);
        blockIs(q, 0, 15, 0, 0, 0, 16);
        q.fill(1, 15, 15, 1, 1, 1);
        blockIs(q, 1, 15, 15, 15, 15, 1);
        blockIs(q, 1, 14, 15, 14, 15, 1);
        blockIs(q, 1, 14, 14, 14, 14, 1);
        blockIs(q, 1, 13, 15, 12, 14, 2);
        blockIs(q, 1, 11, 12, 8, 12, 4);
        blockIs(q, 1, 15, 11, 12, 8, 4);
        blockIs(q, 1, 7, 15, 0, 8, 8);
        blockIs(q, 1, 15, 7, 8, 0, 8);
        blockIs(q, 1, 7, 7, 0, 0, 8);
        Sentences.chequer(q, 2);
        blockIs(q, 2, 6, 9, 6, 9, 1);
    }

    private static void blockBad() {
        S.of("13", "BAD");
        for (int no : NO_MASK) S.refused("mask " + no, q -> q.block(no, 0, 0, 0), -2);
        for (int no : NO_CELL) {
            S.refused("x " + no, q -> q.block(0, no, 0, 0), -2);
            S.refused("y " + no, q -> q.block(0, 0, no, 0), -2);
        }
        for (int no : new int[] {-1, 3, LEAST, MOST}) S.refused("what " + no, q -> q.block(0, 0, 0, no), -2);
    }

    private static void blocks() {
        QuarterMasks q = S.of("14", "How many BLOCKS (what = 0), dark ones (1), MIXED SQUARES (2)");
        int[] light = {1, 0, 0};
        int[] dark = {1, 1, 0};
        int[] cell = {13, 1, 4};
        int[] most = {256, 128, 85};
        q.fill(1, 0, 0, 16, 16, 1);
        q.fill(2, 7, 8, 1, 1, 1);
        for (int what = 0; what < 3; what++) {
            S.due("light, " + what, q.blocks(0, what), light[what]);
            S.due("dark, " + what, q.blocks(1, what), dark[what]);
            S.due("a cell, " + what, q.blocks(2, what), cell[what]);
        }
        q.over(2, 2);
        S.due("all but a cell: dark ones", q.blocks(2, 1), 12);
        Sentences.chequer(q, 0);
        for (int what = 0; what < 3; what++) S.due("chequered, " + what, q.blocks(0, what), most[what]);
    }

    private static void blocksWithin() {
        QuarterMasks q = S.of("14", "how many MIXED ones are one within another at most (3).");
        S.due("light", q.blocks(0, 3), 0);
        q.fill(0, 0, 0, 16, 16, 1);
        S.due("dark", q.blocks(0, 3), 0);
        for (int side = 8, deep = 1; side >= 1; side /= 2, deep++) {
            q.fill(1, 0, 0, 16, 16, 0);
            q.fill(1, 16 - side, 16 - side, side, side, 1);
            S.due("a block of " + side, q.blocks(1, 3), deep);
        }
        q.fill(2, 0, 0, 1, 1, 1);
        q.fill(2, 12, 12, 4, 4, 1);
        S.due("the deepest comes first", q.blocks(2, 3), 4);
        q.turn(2, 2, 2);
        S.due("the deepest comes last", q.blocks(2, 3), 4);
        for (int c = 0; c < 4; c++) q.fill(3, c % 2 * 8, c / 2 * 8, 4, 4, 1);
        S.due("side by side is not within", q.blocks(3, 3), 2);
    }

    private static void blocksBad() {
        S.of("14", "BAD");
        for (int no : NO_MASK) {
            S.refused("mask " + no, q -> q.blocks(no, 0), -2);
            S.refused("what " + no, q -> q.blocks(0, no), -2);
        }
    }

    private static void shownHowMany() {
        QuarterMasks q = S.of("15", "How many signs (i = NONE)");
        S.due("light", q.shown(0, QuarterMasks.NONE), 1);
        q.fill(0, 0, 0, 16, 16, 1);
        S.due("dark", q.shown(0, QuarterMasks.NONE), 1);
        q.fill(0, 0, 0, 8, 8, 0);
        S.due("a quarter", q.shown(0, QuarterMasks.NONE), 5);
        q.fill(0, 15, 15, 1, 1, 0);
        S.due("and a cell", q.shown(0, QuarterMasks.NONE), 17);
        Sentences.chequer(q, 1);
        S.due("the most", q.shown(1, QuarterMasks.NONE), 341);
    }

    private static void shownTheIth() {
        QuarterMasks q = S.of("15", "the i-th (0 to 340; NONE).");
        S.due("light, the first", q.shown(0, 0), 0);
        S.due("light, no second", q.shown(0, 1), -1);
        S.due("light, none at 340", q.shown(0, 340), -1);
        q.fill(0, 0, 0, 16, 16, 1);
        S.due("dark, the first", q.shown(0, 0), 1);
        S.due("dark, no second", q.shown(0, 1), -1);
        Sentences.chequer(q, 1);
        S.due("the most, first", q.shown(1, 0), 2);
        S.due("the most, the one before the last", q.shown(1, 339), 0);
        S.due("the most, the last", q.shown(1, 340), 1);
        q.fill(1, 14, 14, 2, 2, 0);
        S.due("four fewer, the last", q.shown(1, 336), 0);
        S.due("four fewer, none behind", q.shown(1, 337), -1);
        S.due("four fewer, none at 340", q.shown(1, 340), -1);
    }

    private static void shownBad() {
        S.of("15", "BAD");
        for (int no : NO_MASK) {
            S.refused("mask " + no, q -> q.shown(no, 0), -2);
            S.refused("mask " + no + ", how many", q -> q.shown(no, -1), -2);
        }
        for (int no : new int[] {-2, -3, 341, LEAST, MOST}) S.refused("i " + no, q -> q.shown(0, no), -2);
    }

    private static void allParts() {
        QuarterMasks q = S.of("16", "How many PARTS (what = 0)");
        S.due("light", q.all(0, 0), 0);
        q.fill(0, 0, 0, 16, 16, 1);
        S.due("dark", q.all(0, 0), 1);
        Sentences.chequer(q, 1);
        S.due("the most", q.all(1, 0), 128);
        q.over(1, 1);
        S.due("the most, turned over", q.all(1, 0), 128);
        q.fill(1, 0, 0, 1, 1, 1);
        S.due("three come together", q.all(1, 0), 127);
    }

    private static void allBorder() {
        QuarterMasks q = S.of("16", "the BORDER of all (1)");
        S.due("light", q.all(0, 1), 0);
        q.fill(0, 0, 0, 16, 16, 1);
        S.due("dark", q.all(0, 1), 64);
        Sentences.chequer(q, 1);
        S.due("the most", q.all(1, 1), 512);
        q.fill(2, 0, 0, 1, 1, 1);
        q.fill(2, 15, 15, 1, 1, 1);
        S.due("two parts", q.all(2, 1), 8);
        q.fill(2, 1, 0, 1, 1, 1);
        S.due("a side between them is none", q.all(2, 1), 10);
    }

    private static void allHoles() {
        QuarterMasks q = S.of("16", "HOLES (2)");
        S.due("light", q.all(0, 2), 0);
        q.fill(0, 0, 0, 16, 16, 1);
        S.due("dark", q.all(0, 2), 0);
        Sentences.chequer(q, 1);
        S.due("the most light cells alone", q.all(1, 2), 98);
        q.fill(2, 0, 0, 3, 3, 1);
        q.fill(2, 1, 1, 1, 1, 0);
        S.due("a ring at the corner", q.all(2, 2), 1);
        q.fill(2, 0, 1, 1, 1, 0);
        S.due("open to the edge", q.all(2, 2), 0);
    }

    private static void allDark() {
        QuarterMasks q = S.of("16", "dark CELLS (3).");
        S.due("light", q.all(0, 3), 0);
        q.fill(0, 15, 15, 1, 1, 1);
        S.due("one", q.all(0, 3), 1);
        q.over(0, 0);
        S.due("all but one", q.all(0, 3), 255);
        q.fill(0, 0, 0, 16, 16, 1);
        S.due("dark", q.all(0, 3), 256);
    }

    private static void allBad() {
        S.of("16", "BAD");
        for (int no : NO_MASK) {
            S.refused("mask " + no, q -> q.all(no, 0), -2);
            S.refused("what " + no, q -> q.all(0, no), -2);
        }
    }

    private static void label() {
        QuarterMasks q = S.of("17", "The PART in which a CELL is;");
        Sentences.chequer(q, 0);
        S.due("the first", q.label(0, 0, 0), 0);
        S.due("the last of the first row", q.label(0, 14, 0), 7);
        S.due("the first of the next one", q.label(0, 1, 1), 8);
        S.due("the last of the most", q.label(0, 15, 15), 127);
        q.fill(1, 0, 0, 16, 16, 1);
        S.due("dark, first", q.label(1, 0, 0), 0);
        S.due("dark, last", q.label(1, 15, 15), 0);
        q.fill(0, 0, 0, 15, 1, 0);
        S.due("numbered anew", q.label(0, 15, 15), 119);
    }

    private static void labelNone() {
        QuarterMasks q = S.of("17", "NONE: it is light.");
        S.due("light", q.label(0, 0, 0), -1);
        Sentences.chequer(q, 1);
        S.due("beside the first", q.label(1, 1, 0), -1);
        S.due("beside the last", q.label(1, 14, 15), -1);
        q.fill(2, 0, 0, 16, 16, 1);
        q.fill(2, 15, 15, 1, 1, 0);
        S.due("the only one", q.label(2, 15, 15), -1);
        q.fill(2, 15, 15, 1, 1, 1);
        S.due("dark again", q.label(2, 15, 15), 0);
    }

    private static void labelBad() {
        S.of("17", "BAD");
        for (int no : NO_MASK) S.refused("mask " + no, q -> q.label(no, 6, 6), -2);
        for (int no : NO_CELL) {
            S.refused("x " + no, q -> q.label(3, no, 0), -2);
            S.refused("y " + no, q -> q.label(3, 0, no), -2);
        }
    }

    private static void figuresAre(QuarterMasks q, int mask, int part, int... figures) {
        for (int what = 0; what < 6; what++) {
            S.due("part " + part + " of " + mask + ", " + what, q.part(mask, part, what), figures[what]);
        }
    }

    private static void partFigures() {
        QuarterMasks q = S.of("18",
            "Of a PART how many CELLS (what = 0), BORDER (1), least x (2), least y (3), greatest x (4), greatest "
            + "y (5).");
        q.fill(0, 0, 0, 16, 16, 1);
        figuresAre(q, 0, 0, 256, 64, 0, 0, 15, 15);
        q.fill(1, 0, 0, 1, 1, 1);
        q.fill(1, 15, 15, 1, 1, 1);
        figuresAre(q, 1, 0, 1, 4, 0, 0, 0, 0);
        figuresAre(q, 1, 1, 1, 4, 15, 15, 15, 15);
        // Its first cell has neither the least nor the greatest x.
        q.fill(1, 7, 3, 1, 4, 1);
        q.fill(1, 4, 5, 9, 1, 1);
        figuresAre(q, 1, 1, 12, 26, 4, 3, 12, 6);
        Sentences.chequer(q, 2);
        figuresAre(q, 2, 127, 1, 4, 15, 15, 15, 15);
        q.fill(2, 1, 0, 1, 1, 1);
        figuresAre(q, 2, 0, 4, 10, 0, 0, 2, 1);
    }

    private static void partBad() {
        QuarterMasks q = S.of("18", "BAD: there is no such one.");
        S.due("none of a light one", q.part(0, 0, 0), -2);
        q.fill(0, 0, 0, 16, 16, 1);
        S.due("one of a dark one", q.part(0, 0, 0), 256);
        S.due("no second", q.part(0, 1, 0), -2);
        Sentences.chequer(q, 1);
        S.due("128", q.part(1, 127, 0), 1);
        S.due("no 129th", q.part(1, 128, 0), -2);
        q.fill(1, 0, 0, 16, 15, 0);
        S.due("8 are left", q.part(1, 7, 0), 1);
        S.due("no ninth, though there was one", q.part(1, 8, 0), -2);
        for (int no : NO_MASK) S.refused("mask " + no, p -> p.part(no, 0, 0), -2);
        for (int no : new int[] {-1, 1, LEAST, MOST}) S.refused("part " + no, p -> p.part(3, no, 0), -2);
        for (int no : new int[] {-1, 6, LEAST, MOST}) S.refused("what " + no, p -> p.part(3, 0, no), -2);
    }

    private static void near() {
        QuarterMasks q = S.of("19", "How FAR a CELL is from the nearest dark one;");
        int[][] corners = {{0, 0}, {15, 0}, {0, 15}, {15, 15}};
        for (int[] c : corners) {
            q.fill(0, 0, 0, 16, 16, 0);
            q.fill(0, c[0], c[1], 1, 1, 1);
            S.due("itself", q.near(0, c[0], c[1]), 0);
            S.due("in x", q.near(0, 15 - c[0], c[1]), 15);
            S.due("in y", q.near(0, c[0], 15 - c[1]), 15);
            S.due("the farthest", q.near(0, 15 - c[0], 15 - c[1]), 30);
        }
        q.fill(1, 0, 0, 16, 16, 1);
        S.due("a dark one", q.near(1, 7, 7), 0);
        q.fill(1, 1, 1, 14, 14, 0);
        S.due("the midst", q.near(1, 7, 8), 7);
        q.fill(2, 4, 0, 1, 1, 1);
        q.fill(2, 0, 3, 1, 1, 1);
        S.due("the nearest comes later", q.near(2, 0, 0), 3);
        S.due("the nearest comes first", q.near(2, 3, 1), 2);
        S.due("both as far", q.near(2, 2, 1), 3);
    }

    private static void nearNone() {
        QuarterMasks q = S.of("19", "NONE: there is none.");
        S.due("first", q.near(0, 0, 0), -1);
        S.due("last", q.near(3, 15, 15), -1);
        q.fill(3, 15, 15, 1, 1, 1);
        S.due("one", q.near(3, 15, 15), 0);
        S.due("of another mask", q.near(0, 15, 15), -1);
        q.back();
        S.due("none again", q.near(3, 15, 15), -1);
    }

    private static void nearBad() {
        S.of("19", "BAD");
        for (int no : NO_MASK) S.refused("mask " + no, q -> q.near(no, 0, 0), -2);
        for (int no : NO_CELL) {
            S.refused("x " + no, q -> q.near(0, no, 0), -2);
            S.refused("y " + no, q -> q.near(0, 0, no), -2);
        }
        QuarterMasks q = new QuarterMasks();
        S.due("BAD ahead of NONE", q.near(0, 16, 0), -2);
    }

    /** Masks 0 and 1 are light, 2 is dark, 3 has a cell. */
    private static QuarterMasks lightDarkAndACell() {
        QuarterMasks q = new QuarterMasks();
        q.fill(2, 0, 0, 16, 16, 1);
        q.fill(3, 15, 15, 1, 1, 1);
        return q;
    }

    private static void bothAre(QuarterMasks q, int what, int[][] want) {
        int[] of = {0, 2, 3};
        for (int a = 0; a < 3; a++) {
            for (int b = 0; b < 3; b++) S.due(of[a] + " and " + of[b], q.both(of[a], of[b], what), want[a][b]);
        }
    }

    private static void bothAlike() {
        S.of("20", "Whether both are alike (what = 0: 1, 0)");
        QuarterMasks q = lightDarkAndACell();
        bothAre(q, 0, new int[][] {{1, 0, 0}, {0, 1, 0}, {0, 0, 1}});
        S.due("two light ones", q.both(0, 1, 0), 1);
        q.fill(1, 15, 15, 1, 1, 1);
        S.due("by the last cell alike", q.both(1, 3, 0), 1);
        S.due("by the last cell unlike", q.both(1, 0, 0), 0);
    }

    private static void bothWithin() {
        S.of("20", "whether a is dark nowhere where b is not (1)");
        QuarterMasks q = lightDarkAndACell();
        bothAre(q, 1, new int[][] {{1, 1, 1}, {0, 1, 0}, {0, 1, 1}});
        q.over(3, 1);
        S.due("a cell and all but it", q.both(3, 1, 1), 0);
        S.due("all but it and the cell", q.both(1, 3, 1), 0);
    }

    private static void bothDark() {
        S.of("20", "how many CELLS both are dark in (2)");
        QuarterMasks q = lightDarkAndACell();
        bothAre(q, 2, new int[][] {{0, 0, 0}, {0, 256, 1}, {0, 1, 1}});
        q.over(3, 1);
        S.due("a cell and all but it", q.both(3, 1, 2), 0);
        S.due("dark and all but it", q.both(2, 1, 2), 255);
    }

    private static void bothBeside() {
        S.of("20", "whether any dark CELL of a is a NEIGHBOUR of a dark one of b (3: 1, 0).");
        QuarterMasks q = lightDarkAndACell();
        bothAre(q, 3, new int[][] {{0, 0, 0}, {0, 1, 1}, {0, 1, 0}});
        q.over(3, 1);
        S.due("a cell and all but it", q.both(3, 1, 3), 1);
        q.fill(1, 14, 15, 1, 1, 0);
        S.due("but one neighbour", q.both(3, 1, 3), 1);
        q.fill(1, 15, 14, 1, 1, 0);
        S.due("over the corner alone", q.both(3, 1, 3), 0);
        S.due("round the edges", q.both(1, 3, 3), 0);
    }

    private static void bothBad() {
        S.of("20", "BAD");
        for (int no : NO_MASK) {
            S.refused("a " + no, q -> q.both(no, 0, 0), -2);
            S.refused("b " + no, q -> q.both(0, no, 0), -2);
            S.refused("what " + no, q -> q.both(0, 0, no), -2);
        }
    }
}
