/** The boundary cases of promises 1 to 11, what a mask becomes, a test for each sentence. */
final class MaskBoundaryTest {
    private static final int LEAST = Sentences.LEAST;
    private static final int MOST = Sentences.MOST;
    private static final int[] NO_MASK = {-1, 4, LEAST, MOST};
    private static final int[] NO_CELL = {-1, 16, LEAST, MOST};
    private static final Sentences S = new Sentences("MaskBoundaryTest");

    public static void main(String[] args) {
        newMasks();
        newSheets();
        fillFromOn();
        fillThoseThatAreThere();
        fillDarkOrLight();
        fillBad();
        dotsTimes();
        dotsCells();
        dotsTheOther();
        dotsBad();
        joinKinds();
        joinTo();
        joinBad();
        over();
        overBad();
        moveBy();
        moveLight();
        moveBad();
        turnTimes();
        turnBad();
        band();
        bandBad();
        pickPart();
        pickRefused();
        readFromItem0();
        readFourLikeBlocks();
        readNotBehind();
        readHowMany();
        readRefused();
        readNotWhole();
        readMixedCell();
        readNoSign();
        back();
        backNot();
        S.end("1", "2", "3", "4", "5", "6", "7", "8", "9", "10", "11");
    }

    private static void newMasks() {
        S.of("1", "All MASKS are light;");
        for (int m = 0; m < 4; m++) {
            QuarterMasks q = new QuarterMasks();
            for (int c = 0; c < 256; c++) S.due("mask " + m + ", cell " + c, q.cell(m, c % 16, c / 16), 0);
            S.due("no change, mask " + m, q.count(6), 0);
        }
    }

    private static void newSheets() {
        S.of("1", "all SHEETS are LOST.");
        for (int s = 0; s < 4; s++) {
            QuarterMasks q = new QuarterMasks();
            S.due("no finding before", q.count(8), 0);
            S.due("get " + s, q.get(s, 0, 0), LEAST);
            S.due("get tells NULL, " + s, q.count(8), 1);
            S.due("lose " + s, q.lose(s), -11);
            S.due("lay " + s, q.lay(s, 0, 0, 0), -11);
            S.due("read " + s, q.read(0, s), -11);
            S.due("write " + s, q.write(0, 0, s), -11);
            S.due("copy " + s, q.copy(s, 0, s, 0, 0), -11);
        }
    }

    /** Whether just the cells of a rectangle are dark; 256 calls. */
    private static void darkIs(QuarterMasks q, int mask, int left, int top, int right, int bottom) {
        for (int y = 0; y < 16; y++) {
            for (int x = 0; x < 16; x++) {
                int want = x >= left && x <= right && y >= top && y <= bottom ? 1 : 0;
                S.due("cell " + x + " " + y, q.cell(mask, x, y), want);
            }
        }
    }

    private static void fillFromOn() {
        QuarterMasks q = S.of("2", "CELLS from x, y on, w to the right, h down");
        S.due("5 by 2 from 3, 9", q.fill(0, 3, 9, 5, 2, 1), 10);
        darkIs(q, 0, 3, 9, 7, 10);
        S.due("the other masks stay", q.count(1) + q.count(2) + q.count(3), 0);
        int[][] corners = {{0, 0}, {15, 0}, {0, 15}, {15, 15}};
        for (int[] c : corners) {
            q.fill(1, 0, 0, 16, 16, 0);
            S.due("a cell at " + c[0] + " " + c[1], q.fill(1, c[0], c[1], 1, 1, 1), 1);
            S.due("that cell", q.cell(1, c[0], c[1]), 1);
        }
    }

    private static void fillThoseThatAreThere() {
        QuarterMasks q = S.of("2", "(0 to 16 each; those that are there)");
        S.due("0 wide", q.fill(0, 3, 3, 0, 16, 1), 0);
        S.due("0 high", q.fill(0, 3, 3, 16, 0, 1), 0);
        S.due("0 by 0", q.fill(0, 15, 15, 0, 0, 1), 0);
        S.due("16 by 16", q.fill(0, 0, 0, 16, 16, 1), 256);
        S.due("16 by 16 light", q.fill(0, 0, 0, 16, 16, 0), 0);
        S.due("16 by 16 from the last cell", q.fill(1, 15, 15, 16, 16, 1), 1);
        S.due("just to the edge", q.fill(2, 4, 6, 12, 10, 1), 120);
        S.due("one beyond it", q.fill(3, 5, 7, 12, 10, 1), 99);
        darkIs(q, 3, 5, 7, 15, 15);
        for (int no : new int[] {-1, 17, LEAST, MOST}) {
            S.refused("w " + no, p -> p.fill(3, 0, 0, no, 1, 0), -2);
            S.refused("h " + no, p -> p.fill(3, 0, 0, 1, no, 0), -2);
        }
    }

    private static void fillDarkOrLight() {
        QuarterMasks q = S.of("2", "become dark (v = 1), light (0).");
        S.due("dark", q.fill(0, 2, 2, 4, 4, 1), 16);
        S.due("dark again", q.fill(0, 2, 2, 4, 4, 1), 16);
        S.due("light", q.fill(0, 3, 3, 2, 9, 0), 10);
        S.due("light again", q.fill(0, 3, 3, 2, 9, 0), 10);
        for (int no : new int[] {-1, 2, 256, LEAST, MOST}) S.refused("v " + no, p -> p.fill(0, 0, 0, 1, 1, no), -2);
    }

    private static void fillBad() {
        S.of("2", "BAD");
        for (int no : NO_MASK) S.refused("mask " + no, q -> q.fill(no, 0, 0, 1, 1, 1), -2);
        for (int no : NO_CELL) {
            S.refused("x " + no, q -> q.fill(0, no, 0, 1, 1, 1), -2);
            S.refused("y " + no, q -> q.fill(0, 0, no, 1, 1, 1), -2);
        }
        S.refused("a cell that is not there, though nothing is to be filled", q -> q.fill(0, 16, 0, 0, 0, 1), -2);
        S.refused("a colour that is none, though nothing is to be filled", q -> q.fill(0, 0, 0, 0, 0, 2), -2);
        S.refused("all", q -> q.fill(4, -1, 16, 17, -1, 2), -2);
    }

    private static void dotsTimes() {
        QuarterMasks q = S.of("3", "n times (0 to 255)");
        S.due("0 times", q.dots(0, 5, 0), 0);
        S.due("once", q.dots(1, 5, 1), 1);
        int[] want = new int[256];
        int sum = 0;
        for (int c : Sentences.lots(5, 255)) want[c] ^= 1;
        for (int w : want) sum += w;
        S.due("255 times", q.dots(2, 5, 255), sum);
        for (int c = 0; c < 256; c++) S.due("255 times, cell " + c, q.cell(2, c % 16, c / 16), want[c]);
        for (int no : new int[] {-1, 256, LEAST, MOST}) S.refused("n " + no, p -> p.dots(0, 5, no), -2);
    }

    private static void dotsCells() {
        S.of("3", "a CELL by LOTS of 256 (its y by 16, and its x)");
        for (int cell : new int[] {0, 1, 15, 16, 31, 128, 240, 254, 255}) {
            int seed = 0;
            while (Sentences.lots(seed, 1)[0] != cell) seed++;
            QuarterMasks q = new QuarterMasks();
            S.due("cell " + cell + ", seed " + seed, q.dots(3, seed, 1), 1);
            S.due("cell " + cell + ", seed " + seed + ": it", q.cell(3, cell % 16, cell / 16), 1);
        }
    }

    private static void dotsTheOther() {
        QuarterMasks q = S.of("3", "becomes the other of both.");
        S.due("dark", q.dots(0, 8, 9), q.count(0));
        S.due("light again", q.dots(0, 8, 9), 0);
        q.over(0, 0);
        S.due("of a dark mask", q.dots(0, 8, 1), 255);
        S.due("and dark again", q.dots(0, 8, 1), 256);
        int[] cells = Sentences.lots(1, 255);
        int twice = -1;
        for (int i = 0; i < cells.length && twice < 0; i++) {
            for (int j = 0; j < i; j++) if (cells[i] == cells[j]) twice = i;
        }
        S.holds("a cell comes twice among these lots", twice > 0);
        q.dots(1, 1, twice);
        S.due("a cell before it comes again", q.cell(1, cells[twice] % 16, cells[twice] / 16), 1);
        q.dots(2, 1, twice + 1);
        S.due("and after it", q.cell(2, cells[twice] % 16, cells[twice] / 16), 0);
    }

    private static void dotsBad() {
        QuarterMasks q = S.of("3", "BAD");
        for (int no : NO_MASK) {
            S.refused("mask " + no, p -> p.dots(no, 5, 1), -2);
            S.refused("mask " + no + ", though no dot is drawn", p -> p.dots(no, 5, 0), -2);
        }
        for (int seed : new int[] {LEAST, -1, 0, MOST}) S.due("each seed is well, " + seed, q.dots(1, seed, 0), 0);
    }

    private static void joinKinds() {
        QuarterMasks q = S.of("4",
            "dark where a or b is (kind = 0), where both are (1), where a is and b not (2), where just one is "
            + "(3).");
        // Of a and b light, b alone dark, a alone dark, both dark: masks 0 and 1 have a quarter of the rows for each.
        q.fill(0, 0, 8, 16, 8, 1);
        q.fill(1, 0, 4, 16, 4, 1);
        q.fill(1, 0, 12, 16, 4, 1);
        int[][] want = {{0, 1, 1, 1}, {0, 0, 0, 1}, {0, 0, 1, 0}, {0, 1, 1, 0}};
        for (int kind = 0; kind < 4; kind++) {
            int[] w = want[kind];
            S.due("kind " + kind, q.join(kind, 0, 1, 2), 64 * (w[0] + w[1] + w[2] + w[3]));
            for (int i = 0; i < 4; i++) {
                S.due("kind " + kind + ", rows " + i, q.cell(2, 0, 4 * i), w[i]);
                S.due("kind " + kind + ", last of rows " + i, q.cell(2, 15, 4 * i + 3), w[i]);
            }
        }
        q.fill(3, 0, 0, 16, 16, 1);
        q.fill(2, 0, 0, 16, 16, 0);
        int[][] whole = {{0, 256, 256, 256}, {0, 0, 0, 256}, {0, 0, 256, 0}, {0, 256, 256, 0}};
        for (int kind = 0; kind < 4; kind++) {
            for (int i = 0; i < 4; i++) {
                int a = i / 2 == 0 ? 2 : 3;
                int b = i % 2 == 0 ? 2 : 3;
                S.due("kind " + kind + " of " + a + " and " + b, q.join(kind, a, b, 0), whole[kind][i]);
            }
        }
        for (int no : new int[] {-1, 4, LEAST, MOST}) S.refused("kind " + no, p -> p.join(no, 0, 1, 2), -2);
    }

    private static void joinTo() {
        S.of("4", "MASK to becomes:");
        int[] dark = {12, 4, 4, 8};
        for (int kind = 0; kind < 4; kind++) {
            for (int to = 0; to < 3; to++) {
                QuarterMasks q = new QuarterMasks();
                q.fill(0, 0, 0, 8, 1, 1);
                q.fill(1, 4, 0, 8, 1, 1);
                S.due("kind " + kind + " to " + to, q.join(kind, 0, 1, to), dark[kind]);
                S.due("mask 0, kind " + kind + " to " + to, q.count(0), to == 0 ? dark[kind] : 8);
                S.due("mask 1, kind " + kind + " to " + to, q.count(1), to == 1 ? dark[kind] : 8);
            }
            QuarterMasks q = new QuarterMasks();
            q.fill(0, 0, 0, 8, 1, 1);
            S.due("all one mask, kind " + kind, q.join(kind, 0, 0, 0), kind < 2 ? 8 : 0);
        }
    }

    private static void joinBad() {
        S.of("4", "BAD");
        for (int no : NO_MASK) {
            S.refused("a " + no, q -> q.join(0, no, 1, 2), -2);
            S.refused("b " + no, q -> q.join(0, 1, no, 2), -2);
            S.refused("to " + no, q -> q.join(0, 1, 2, no), -2);
        }
    }

    private static void over() {
        QuarterMasks q = S.of("5", "MASK to becomes: dark where a is light.");
        S.due("of a light one", q.over(0, 1), 256);
        S.due("a stays", q.count(0), 0);
        S.due("of a dark one", q.over(1, 2), 0);
        S.due("itself", q.over(1, 1), 0);
        S.due("and back", q.over(1, 1), 256);
        q.fill(0, 15, 0, 1, 1, 1);
        S.due("of a cell", q.over(0, 2), 255);
        S.due("that cell", q.cell(2, 15, 0) + 10 * q.cell(2, 14, 0) + 100 * q.cell(2, 0, 15), 110);
    }

    private static void overBad() {
        S.of("5", "BAD");
        for (int no : NO_MASK) {
            S.refused("a " + no, q -> q.over(no, 1), -2);
            S.refused("to " + no, q -> q.over(1, no), -2);
        }
    }

    private static void moveBy() {
        QuarterMasks q = S.of("6", "MASK to becomes a moved by dx, dy (-16 to 16)");
        q.fill(0, 0, 0, 16, 16, 1);
        for (int by = -16; by <= 16; by++) {
            int left = 16 - Math.abs(by);
            S.due("in x by " + by, q.move(0, by, 0, 1), 16 * left);
            S.due("in y by " + by, q.move(0, 0, by, 1), 16 * left);
            S.due("in both by " + by, q.move(0, by, by, 1), left * left);
        }
        q.fill(2, 3, 5, 1, 1, 1);
        int[][] cells = {{0, 0, 3, 5}, {12, 10, 15, 15}, {-3, -5, 0, 0}, {12, -5, 15, 0}, {-3, 10, 0, 15}, {1, -1, 4, 4}};
        for (int[] c : cells) {
            S.due("a cell by " + c[0] + " " + c[1], q.move(2, c[0], c[1], 3), 1);
            S.due("a cell at " + c[2] + " " + c[3], q.cell(3, c[2], c[3]), 1);
        }
        int[][] gone = {{13, 0}, {-4, 0}, {0, 11}, {0, -6}, {16, 16}, {-16, -16}};
        for (int[] g : gone) S.due("gone by " + g[0] + " " + g[1], q.move(2, g[0], g[1], 3), 0);
        S.due("itself", q.move(2, 1, 2, 2), 1);
        S.due("itself, moved", q.cell(2, 4, 7) + 10 * q.cell(2, 3, 5), 1);
        for (int no : new int[] {-17, 17, LEAST, MOST}) {
            S.refused("dx " + no, p -> p.move(3, no, 0, 0), -2);
            S.refused("dy " + no, p -> p.move(3, 0, no, 0), -2);
        }
    }

    private static void moveLight() {
        QuarterMasks q = S.of("6", "where nothing comes from it is light.");
        q.fill(0, 0, 0, 16, 16, 1);
        q.fill(1, 0, 0, 16, 16, 1);
        S.due("right and down", q.move(0, 3, 2, 1), 182);
        darkIs(q, 1, 3, 2, 15, 15);
        S.due("left and up, itself", q.move(0, -15, -15, 0), 1);
        S.due("what is left", q.cell(0, 0, 0), 1);
        S.due("all is light", q.move(1, 16, -16, 1), 0);
        S.due("nothing comes back", q.move(1, -16, 16, 1), 0);
    }

    private static void moveBad() {
        S.of("6", "BAD");
        for (int no : NO_MASK) {
            S.refused("a " + no, q -> q.move(no, 1, 1, 1), -2);
            S.refused("to " + no, q -> q.move(1, 1, 1, no), -2);
        }
        S.refused("both moves", q -> q.move(0, 17, -17, 0), -2);
    }

    private static void turnTimes() {
        QuarterMasks q = S.of("7", "MASK to becomes a turned round by quarters to the right (0 to 3 times).");
        // Where a corner, a cell beside it and one near the midst come to by 0 to 3 quarters.
        int[][] ways = {{0, 0, 15, 0, 15, 15, 0, 15}, {1, 0, 15, 1, 14, 15, 0, 14}, {6, 5, 10, 6, 9, 10, 5, 9}};
        for (int[] w : ways) {
            q.fill(0, 0, 0, 16, 16, 0);
            q.fill(0, w[0], w[1], 1, 1, 1);
            for (int times = 0; times < 4; times++) {
                S.due(w[0] + " " + w[1] + " by " + times, q.turn(0, times, 1), 1);
                S.due(w[0] + " " + w[1] + " by " + times + ": where", q.cell(1, w[2 * times], w[2 * times + 1]), 1);
            }
            S.due("a stays", q.cell(0, w[0], w[1]), 1);
        }
        S.due("itself", q.turn(0, 1, 0), 1);
        S.due("itself, turned", q.cell(0, 10, 6), 1);
        S.due("a light one", q.turn(2, 3, 3), 0);
        q.over(2, 2);
        S.due("a dark one", q.turn(2, 3, 3), 256);
        for (int no : new int[] {-1, 4, LEAST, MOST}) S.refused("times " + no, p -> p.turn(2, no, 3), -2);
    }

    private static void turnBad() {
        S.of("7", "BAD");
        for (int no : NO_MASK) {
            S.refused("a " + no, q -> q.turn(no, 1, 1), -2);
            S.refused("to " + no, q -> q.turn(1, 1, no), -2);
            S.refused("a " + no + ", though it is not turned", q -> q.turn(no, 0, 1), -2);
        }
    }

    private static void band() {
        QuarterMasks q = S.of("8",
            "MASK to becomes dark where a CELL is FAR no more than d (0 to 30) from any dark one of a.");
        S.due("0 of a light one", q.band(0, 0, 1), 0);
        S.due("30 of a light one", q.band(0, 30, 1), 0);
        q.fill(0, 8, 7, 1, 1, 1);
        for (int d = 0; d <= 7; d++) S.due(d + " off the edge", q.band(0, d, 1), 2 * d * d + 2 * d + 1);
        S.due("8 is cut by the edge", q.band(0, 8, 1), 2 * 64 + 16 + 1 - 2);
        int[][] corners = {{0, 0}, {15, 0}, {0, 15}, {15, 15}};
        for (int[] c : corners) {
            q.fill(2, 0, 0, 16, 16, 0);
            q.fill(2, c[0], c[1], 1, 1, 1);
            S.due("0 of a corner", q.band(2, 0, 3), 1);
            S.due("15 of a corner", q.band(2, 15, 3), 136);
            S.due("29 of a corner", q.band(2, 29, 3), 255);
            S.due("29, the far one", q.cell(3, 15 - c[0], 15 - c[1]), 0);
            S.due("30 of a corner", q.band(2, 30, 3), 256);
        }
        q.fill(2, 0, 15, 1, 1, 1);
        S.due("two dark ones, itself", q.band(2, 1, 2), 6);
        q.over(2, 3);
        q.fill(3, 0, 0, 16, 16, 1);
        S.due("a dark one", q.band(3, 30, 3), 256);
        for (int no : new int[] {-1, 31, LEAST, MOST}) S.refused("d " + no, p -> p.band(3, no, 3), -2);
    }

    private static void bandBad() {
        S.of("8", "BAD");
        for (int no : NO_MASK) {
            S.refused("a " + no, q -> q.band(no, 1, 1), -2);
            S.refused("to " + no, q -> q.band(1, 1, no), -2);
            S.refused("to " + no + ", though it is not widened", q -> q.band(1, 0, no), -2);
        }
    }

    private static void pickPart() {
        QuarterMasks q = S.of("9", "MASK to becomes the PART of a in which a CELL is.");
        q.fill(0, 0, 0, 3, 3, 1);
        q.fill(0, 3, 3, 13, 13, 1);
        q.fill(1, 0, 0, 16, 16, 1);
        S.due("its first cell", q.pick(0, 0, 0, 2), 9);
        S.due("what it was before is gone", q.pick(0, 2, 2, 1), 9);
        darkIs(q, 1, 0, 0, 2, 2);
        S.due("over a corner there is no way", q.pick(0, 3, 3, 2), 169);
        S.due("its last cell", q.pick(0, 15, 15, 2), 169);
        S.due("a stays", q.count(0), 178);
        S.due("itself", q.pick(0, 15, 3, 0), 169);
        q.fill(3, 0, 0, 16, 16, 1);
        S.due("a dark one", q.pick(3, 7, 7, 3), 256);
    }

    private static void pickRefused() {
        S.of("9", "BAD; NOT: it is light.");
        for (int no : NO_MASK) {
            S.refused("a " + no, q -> q.pick(no, 6, 6, 1), -2);
            S.refused("to " + no, q -> q.pick(1, 6, 6, no), -2);
            S.refused("to " + no + ", of a light cell", q -> q.pick(1, 9, 9, no), -2);
        }
        for (int no : NO_CELL) {
            S.refused("x " + no, q -> q.pick(3, no, 0, 1), -2);
            S.refused("y " + no, q -> q.pick(3, 0, no, 1), -2);
        }
        S.refused("light, all around is dark", q -> q.pick(3, 9, 1, 0), -3);
        S.refused("light, beside the part", q -> q.pick(2, 6, 7, 2), -3);
        S.refused("light, at the edge", q -> q.pick(0, 15, 15, 0), -3);
        QuarterMasks q = new QuarterMasks();
        S.due("a light mask", q.pick(0, 0, 0, 1), -3);
        S.due("no change", q.count(6), 0);
    }

    private static void readFromItem0() {
        S.of("10", "A MASK becomes what the items of a SHEET, from 0 on, tell as SHOWN");
        for (int form = 0; form < 3; form++) {
            QuarterMasks q = new QuarterMasks();
            q.fill(0, 0, 0, 16, 16, 1);
            Sentences.layAll(q, 0, form, 0);
            S.due("light", q.read(0, 0), 1);
            S.due("light: dark cells", q.count(0), 0);
            Sentences.layAll(q, 0, form, 1);
            S.due("dark", q.read(0, 0), 1);
            S.due("dark: dark cells", q.count(0), 256);
            Sentences.layAll(q, 0, form, 2, 0, 1, 0, 2, 0, 0, 2, 1, 0, 0, 2, 0, 0, 1, 0, 0);
            S.due("down to a cell", q.read(0, 0), 17);
            S.due("down to a cell: dark cells", q.count(0), 64 + 4 + 1);
            S.due("quarter 1", q.block(0, 15, 0, 2) + 100 * q.cell(0, 15, 0), 108);
            S.due("quarter 0 of 2 of 3", q.block(0, 8, 12, 2) + 100 * q.cell(0, 8, 12), 102);
            S.due("quarter 2 of 3 of 2 of 3", q.block(0, 10, 15, 2) + 100 * q.cell(0, 10, 15), 101);
            S.due("the other masks stay", q.count(1) + q.count(2) + q.count(3), 0);
        }
        QuarterMasks q = Sentences.busy(5);
        q.sheet(3, 0, 60);
        for (int m = 0; m < 4; m++) {
            q.write(m, 0, 3);
            S.due("shown and read again, " + m, q.read((m + 1) % 4, 3), q.shown(m, -1));
            S.due("alike, " + m, q.both(m, (m + 1) % 4, 0), 1);
        }
    }

    private static void readFourLikeBlocks() {
        QuarterMasks q = S.of("10", "(four like BLOCKS may be told for one)");
        Sentences.layAll(q, 0, 0, 2, 1, 1, 1, 1);
        S.due("dark ones", q.read(0, 0), 5);
        S.due("are one", q.shown(0, -1) + 10 * q.shown(0, 0), 11);
        Sentences.layAll(q, 0, 0, 2, 0, 0, 0, 0);
        S.due("light ones", q.read(0, 0), 5);
        S.due("are one", q.shown(0, -1) + 10 * q.shown(0, 0), 1);
        Sentences.layAll(q, 0, 0, 2, 2, 2, 2, 1, 1, 1, 1, 1, 1, 1, 1, 1, 1, 1, 1, 1);
        S.due("down to cells", q.read(0, 0), 17);
        S.due("are one", q.shown(0, -1) + 10 * q.shown(0, 0), 11);
        Sentences.layAll(q, 0, 0, 2, 0, 2, 1, 1, 1, 1, 0, 2, 0, 0, 0, 0);
        S.due("in quarters", q.read(0, 0), 13);
        S.due("are one in each", q.shown(0, -1), 5);
        S.due("dark cells", q.count(0), 64);
    }

    private static void readNotBehind() {
        QuarterMasks q = S.of("10", "others behind it are not looked at");
        Sentences.layAll(q, 0, 2, 1, 7, -1, 2);
        S.due("no signs", q.read(0, 0), 1);
        S.due("dark", q.count(0), 256);
        Sentences.layAll(q, 1, 1, 2, 0, 0, 0, 1, 2, 2, 2, 2, 2);
        S.due("a mixed cell", q.read(0, 1), 5);
        S.due("a quarter", q.count(0), 64);
        Sentences.layAll(q, 2, 0, 0, 1);
        S.due("another whole one", q.read(0, 2), 1);
        S.due("light", q.count(0), 0);
    }

    private static void readHowMany() {
        QuarterMasks q = S.of("10", ": how many items it took.");
        q.sheet(0, 0, 60);
        S.due("one of 60", q.read(0, 0), 1);
        // 57 signs are the most that find room in 60 items: 14 mixed squares, the whole one, its first quarter, the
        // four in it, and two in each of these.
        int[] mixed = {0, 1, 2, 3, 8, 15, 16, 21, 28, 29, 34, 41, 42, 47};
        for (int at : mixed) q.lay(0, 0, at, 2);
        S.due("57 of 60", q.read(0, 0), 57);
        S.due("all light", q.count(0), 0);
        q.lay(0, 0, 56, 1);
        S.due("57 of 60, the last dark", q.read(0, 0), 57);
        S.due("a quarter", q.count(0), 64);
    }

    private static void readRefused() {
        S.of("10", "BAD; NULL;");
        for (int no : NO_MASK) {
            S.refused("mask " + no, q -> q.read(no, 0), -2);
            S.refused("mask " + no + ", of a lost sheet", q -> q.read(no, 3), -2);
            S.refused("sheet " + no, q -> q.read(0, no), -2);
        }
        S.found("a lost sheet", q -> q.read(3, 3), -11, 1);
        QuarterMasks q = Sentences.busy(5);
        q.lose(0);
        S.due("a sheet lost again", q.read(0, 0), -11);
    }

    /** The items are laid on sheet 0 of a new object whose mask 1 is not light. */
    private static void isNot(String what, int form, int... items) {
        QuarterMasks q = new QuarterMasks();
        q.dots(1, 3, 40);
        Sentences.layAll(q, 0, form, items);
        long digest = q.digest();
        S.due(what, q.read(1, 0), -3);
        S.due(what + " changes nothing", q.digest(), digest);
        S.due(what + " is no finding", q.count(8), 0);
    }

    private static void readNotWhole() {
        S.of("10", "NOT: they do not tell a whole one,");
        isNot("no items", 0);
        isNot("a mixed square alone", 0, 2);
        isNot("three quarters", 1, 2, 1, 1, 1);
        isNot("three quarters of the last", 2, 2, 0, 0, 0, 2, 1, 1, 1);
        isNot("four quarters of the first", 0, 2, 2, 1, 1, 1, 1);
        isNot("down to cells, one missing", 0, 2, 2, 2, 2, 1, 1, 1, 1, 1, 1, 1, 1, 1, 1, 1, 1);
        QuarterMasks q = new QuarterMasks();
        for (int c = 0; c < 256; c += 5) q.fill(1, c % 16, c / 16, 1, 1, 1);
        q.sheet(0, 0, 60);
        S.due("60 of more than 60 signs", q.write(1, 0, 0), 60);
        S.due("do not tell it", q.read(2, 0), -3);
        S.due("nothing comes", q.count(2), 0);
    }

    private static void readMixedCell() {
        S.of("10", "or a MIXED CELL.");
        isNot("the first", 0, 2, 2, 2, 2, 2, 0, 0, 0, 0, 0, 0, 0, 0, 0, 0, 0, 0, 0, 0, 0, 0);
        isNot("and four in it", 2, 2, 2, 2, 2, 0, 0, 0, 2, 0, 0, 0, 0, 0, 0, 0, 0, 0, 0, 0, 0, 0);
        isNot("the last of all", 1, 2, 0, 0, 0, 2, 0, 0, 0, 2, 0, 0, 0, 2, 1, 1, 1, 2);
        isNot("the last of all, and four", 1, 2, 0, 0, 0, 2, 0, 0, 0, 2, 0, 0, 0, 2, 1, 1, 1, 2, 1, 1, 1, 1);
        QuarterMasks q = new QuarterMasks();
        Sentences.layAll(q, 0, 1, 2, 0, 0, 0, 2, 0, 0, 0, 2, 0, 0, 0, 2, 1, 1, 1, 0);
        S.due("two by two cells are mixed", q.read(1, 0), 17);
        S.due("its cells", q.count(1), 3);
    }

    /** Signs are 0, 1 and 2 alone: an item that is none tells nothing, so no whole mask is told. */
    private static void readNoSign() {
        S.of("10", "they do not tell a whole one");
        for (int form = 0; form < 3; form++) {
            for (int no : new int[] {3, -1, 4, 127, -128}) {
                isNot("the item " + no, form, no);
                isNot("the item " + no + ", as if mixed", form, no, 1, 0, 1, 0);
                isNot("the item " + no + " in a quarter", form, 2, 1, 1, no, 1);
                isNot("the item " + no + " in a quarter, as if mixed", form, 2, 1, 1, no, 1, 0, 1, 0, 1);
                isNot("the item " + no + " last", form, 2, 1, 1, 1, no);
            }
        }
        for (int no : new int[] {256, 257, 258, LEAST, MOST}) isNot("the int " + no, 2, no, 1, 0, 1, 0);
        for (int no : new int[] {256, 257, 258}) isNot("the short " + no, 1, no, 1, 0, 1, 0);
        isNot("the int 65537", 2, 65537);
        QuarterMasks q = new QuarterMasks();
        Sentences.layAll(q, 0, 0, 257);
        S.due("257 is 1 as a byte", q.read(0, 0), 1);
        S.due("dark", q.count(0), 256);
        Sentences.layAll(q, 0, 1, 65536);
        S.due("65536 is 0 as a short", q.read(0, 0), 1);
        S.due("light", q.count(0), 0);
    }

    private static void back() {
        QuarterMasks q = S.of("11", "The last CHANGE that is known is undone: how many are known still.");
        q.fill(0, 0, 0, 4, 4, 1);
        S.due("the only one", q.back(), 0);
        S.due("light again", q.count(0), 0);
        for (int i = 0; i < 50; i++) q.fill(i % 3, i % 16, i / 16, 1, 1, 1);
        for (int left = 39; left >= 0; left--) {
            int undone = left + 10;
            S.due("known still", q.back(), left);
            S.due("undone " + undone, q.cell(undone % 3, undone % 16, undone / 16), 0);
            S.due("kept " + (undone - 1), q.cell((undone - 1) % 3, (undone - 1) % 16, (undone - 1) / 16), 1);
        }
        S.due("count(6)", q.count(6), 0);
        S.due("the tenth and those before stay", q.count(0) + q.count(1) + q.count(2), 10);
        q.fill(3, 0, 0, 1, 1, 1);
        S.due("one more is known again", q.count(6), 1);
        S.due("and undone", q.back(), 0);
    }

    private static void backNot() {
        QuarterMasks q = S.of("11", "NOT: none is.");
        S.due("at first", q.back(), -3);
        S.due("and again", q.back(), -3);
        S.due("it is no finding", q.count(8), 0);
        q.fill(0, 0, 0, 5, 5, 1);
        q.back();
        S.due("all undone", q.back(), -3);
        for (int i = 0; i < 41; i++) q.fill(0, 0, 0, i % 16 + 1, 1, 1);
        for (int i = 0; i < 40; i++) S.due("one of 40", q.back(), 39 - i);
        long digest = q.digest();
        S.due("the one before the last 40", q.back(), -3);
        S.due("stays", q.count(0), 1);
        S.due("nothing changes", q.digest(), digest);
        S.due("no change is known", q.count(6), 0);
    }
}
