import java.io.IOException;
import java.nio.file.Files;
import java.nio.file.Path;
import java.util.List;

/** The document's outer sections: what it is, clause by clause, its public face, line by line, and what is free. */
final class FaceTest {
    private static final Sentences S = new Sentences("FaceTest");
    private static final List<String> METHODS = List.of(
        "int fill(int mask, int x, int y, int w, int h, int v)", "int dots(int mask, int seed, int n)",
        "int join(int kind, int a, int b, int to)", "int over(int a, int to)", "int move(int a, int dx, int dy, int to)",
        "int turn(int a, int times, int to)", "int band(int a, int d, int to)", "int pick(int a, int x, int y, int to)",
        "int read(int mask, int s)", "int back()", "int cell(int mask, int x, int y)",
        "int block(int mask, int x, int y, int what)", "int blocks(int mask, int what)", "int shown(int mask, int i)",
        "int all(int mask, int what)", "int label(int mask, int x, int y)", "int part(int mask, int part, int what)",
        "int near(int mask, int x, int y)", "int both(int a, int b, int what)", "int sheet(int s, int form, int n)",
        "int lose(int s)", "int lay(int s, int form, int i, int v)", "int get(int s, int form, int i)",
        "int copy(int s, int i, int t, int j, int n)", "int write(int mask, int i, int s)", "int count(int what)",
        "long digest()");

    public static void main(String[] args) throws IOException {
        workedOnBlocks();
        sixteenBySixteen();
        fewestBlocks();
        filledAndDrawn();
        whatMasksBecome();
        whereBlocksBegin();
        partsInTheirOrder();
        holes();
        howFar();
        shownAndReadSo();
        undone();
        lightAtFirst();
        laterCallsAreFree();
        face(Files.readString(Path.of("src/main/java/QuarterMasks.java")));
        notPromised();
        S.end("What it is", "The public face", "Not promised");
    }

    private static void workedOnBlocks() {
        QuarterMasks q = S.of("What it is", "Raster mask store as region quadtrees: set algebra, component labels, "
            + "perimeters, shifts and distance bands worked on blocks without expanding cells;");
        S.due("fill", q.fill(0, 2, 2, 4, 4, 1), 16);
        S.due("shift", q.move(0, 6, 0, 1), 16);
        S.due("set algebra", q.join(0, 0, 1, 2), 32);
        S.due("label of the right one", q.label(2, 8, 2), 1);
        S.due("perimeter", q.all(2, 1), 32);
        S.due("distance band", q.band(2, 1, 3), 64);
        S.due("both in one", q.label(3, 8, 2), 0);
    }

    private static void sixteenBySixteen() {
        QuarterMasks q = S.of("What it is", "masks of sixteen by sixteen cells,");
        for (int m = 0; m < 4; m++) {
            S.due("turned over, " + m, q.over(m, m), 16 * 16);
            S.due("the last cell of " + m, q.cell(m, 15, 15), 1);
            S.due("x 16 of " + m, q.cell(m, 16, 15), -2);
            S.due("y 16 of " + m, q.cell(m, 15, 16), -2);
        }
    }

    /** The fewest blocks that a square can be told by, counted from its cells. */
    private static int fewest(boolean[][] dark, int x, int y, int side) {
        int cells = 0;
        for (int i = 0; i < side * side; i++) if (dark[y + i / side][x + i % side]) cells++;
        if (cells == 0 || cells == side * side) return 1;
        int half = side / 2;
        return fewest(dark, x, y, half) + fewest(dark, x + half, y, half)
            + fewest(dark, x, y + half, half) + fewest(dark, x + half, y + half, half);
    }

    private static void fewestBlocks() {
        S.of("What it is", "each kept as the fewest blocks, one or four quarters, each so again;");
        for (int dots = 0; dots < 256; dots += 5) {
            QuarterMasks q = new QuarterMasks();
            q.dots(0, dots, dots);
            q.band(0, dots % 3, 0);
            boolean[][] dark = new boolean[16][16];
            for (int i = 0; i < 256; i++) dark[i / 16][i % 16] = q.cell(0, i % 16, i / 16) == 1;
            S.due("blocks by " + dots + " dots", q.blocks(0, 0), fewest(dark, 0, 0, 16));
            S.due("four for each mixed one, by " + dots + " dots", q.blocks(0, 0), 3 * q.blocks(0, 2) + 1);
        }
    }

    private static void filledAndDrawn() {
        QuarterMasks q = S.of("What it is", "filled by rectangles, by dots drawn;");
        S.due("a rectangle", q.fill(0, 3, 4, 5, 2, 1), 10);
        int lot = Sentences.lots(1, 1)[0];
        S.due("a dot", q.dots(1, 1, 1), 1);
        S.due("it is there", q.cell(1, lot % 16, lot / 16), 1);
    }

    private static void whatMasksBecome() {
        QuarterMasks q = S.of("What it is",
            "joined, cut, taken away, turned over, moved, turned round, widened by a band;");
        q.fill(0, 0, 0, 2, 1, 1);
        q.fill(1, 1, 0, 2, 1, 1);
        S.due("joined", q.join(0, 0, 1, 2), 3);
        S.due("cut", q.join(1, 0, 1, 2), 1);
        S.due("taken away", q.join(2, 0, 1, 2), 1);
        S.due("turned over", q.over(2, 2), 255);
        S.due("moved", q.move(0, -1, 15, 2), 1);
        S.due("to there", q.cell(2, 0, 15), 1);
        S.due("turned round", q.turn(2, 1, 2), 1);
        S.due("up left", q.cell(2, 0, 0), 1);
        S.due("widened", q.band(2, 2, 2), 6);
    }

    private static void whereBlocksBegin() {
        QuarterMasks q = S.of("What it is", "where a block begins, how large it is;");
        q.fill(0, 4, 8, 4, 4, 1);
        S.due("x", q.block(0, 6, 11, 0), 4);
        S.due("y", q.block(0, 6, 11, 1), 8);
        S.due("side", q.block(0, 6, 11, 2), 4);
    }

    private static void partsInTheirOrder() {
        QuarterMasks q = S.of("What it is",
            "parts that hang together, numbered as they come first, their sizes and borders;");
        q.fill(0, 9, 9, 3, 2, 1);
        q.fill(0, 1, 9, 2, 2, 1);
        q.fill(0, 2, 12, 1, 1, 1);
        S.due("the second row's right one", q.label(0, 11, 10), 1);
        S.due("size", q.part(0, 1, 0), 6);
        S.due("border", q.part(0, 1, 1), 10);
        S.due("size of the first", q.part(0, 0, 0), 4);
        S.due("border of the first", q.part(0, 0, 1), 8);
        S.due("size of the last", q.part(0, 2, 0), 1);
    }

    private static void holes() {
        QuarterMasks q = S.of("What it is", "holes;");
        q.fill(0, 0, 0, 16, 16, 1);
        q.fill(0, 5, 5, 2, 2, 0);
        q.fill(0, 0, 9, 3, 1, 0);
        S.due("one is no hole, as it comes to the edge", q.all(0, 2), 1);
    }

    private static void howFar() {
        QuarterMasks q = S.of("What it is", "how far a cell is from a mask;");
        S.due("from none", q.near(0, 3, 3), -1);
        q.fill(0, 10, 2, 1, 1, 1);
        S.due("7 and 1", q.near(0, 3, 3), 8);
    }

    private static void shownAndReadSo() {
        QuarterMasks q = S.of("What it is", "masks shown sign by sign, and read so;");
        q.fill(0, 8, 0, 8, 8, 1);
        q.fill(0, 0, 8, 4, 4, 1);
        int[] signs = {2, 0, 1, 2, 1, 0, 0, 0, 0};
        S.due("signs", q.shown(0, -1), signs.length);
        for (int i = 0; i < signs.length; i++) S.due("sign " + i, q.shown(0, i), signs[i]);
        Sentences.layAll(q, 0, 1, signs);
        S.due("read", q.read(3, 0), signs.length);
        S.due("alike", q.both(0, 3, 0), 1);
    }

    private static void undone() {
        QuarterMasks q = S.of("What it is", "what was told undone.");
        q.fill(0, 0, 0, 3, 3, 1);
        q.over(0, 0);
        S.due("over undone", q.back(), 1);
        S.due("as filled", q.count(0), 9);
        S.due("fill undone", q.back(), 0);
        S.due("as new", q.digest(), new QuarterMasks().digest());
    }

    private static void lightAtFirst() {
        QuarterMasks q = S.of("What it is",
            "======== 1 MASKS are 0 to 3, each of CELLS at x (0 to 15), y (0 to 15), light at first, or dark.");
        for (int m = 0; m < 4; m++) {
            S.due("corner of " + m, q.cell(m, 15, 0), 0);
            q.fill(m, 15, 0, 1, 1, 1);
            S.due("dark corner of " + m, q.cell(m, 15, 0), 1);
        }
    }

    /** Their answers are free; that they answer at all is LANGUAGE.md's rule 7, which LanguageTest has. */
    private static void laterCallsAreFree() {
        QuarterMasks q = S.of("What it is",
            "An object is used for at most 512 calls after it has been made; what later calls answer is free.");
        for (int i = 1; i < 512; i++) q.dots(i % 4, i, i % 256);
        S.due("changes, by the 512th call", q.count(6), 40);
    }

    private static void face(String source) {
        String constants = "public static final int NONE = -1, BAD = -2, NOT = -3;";
        for (String line : List.of("public final class QuarterMasks {", constants, "public QuarterMasks();")) {
            S.of("The public face", line);
            S.holds(line + " in the source", source.contains(line.replace("();", "() {")));
        }
        for (String method : METHODS) {
            S.of("The public face", "public " + method + ";");
            S.holds(method + " in the source", source.contains("\n    public " + method + " {\n"));
        }
        S.due("public things in the source", source.split("\\bpublic\\b", -1).length - 1, METHODS.size() + 3);
    }

    /** What is free can't be broken; but these words may not come to ask for more without a test's knowing. */
    private static void notPromised() {
        S.of("Not promised", "How the state is held inside the object is free, as are the speed of each call, "
            + "the text of toString and the behaviour of equals and hashCode.");
        S.of("Not promised", "Use of one object from several threads at once is not promised to be safe.");
        S.of("Not promised", "Nothing is promised beyond the answers and state changes described above, "
            + "and nothing about an object after its 512th call.");
    }
}
