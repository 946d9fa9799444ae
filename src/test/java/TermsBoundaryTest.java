import java.util.LinkedHashMap;
import java.util.Map;

/** The boundary cases of the document's first sections, what it is and its terms, a test for each sentence. */
final class TermsBoundaryTest {
    private static final int LEAST = Sentences.LEAST;
    private static final int MOST = Sentences.MOST;
    private static final Sentences S = new Sentences("TermsBoundaryTest");

    /** A call with one number of it left open. */
    private interface Call {
        int with(QuarterMasks q, int n);
    }

    public static void main(String[] args) {
        masksAre0To3();
        cellsAre0To15();
        at512Calls();
        alikeOrMixed();
        theWholeFirst();
        fourQuarters();
        shownAsSigns();
        neighbours();
        andSoOn();
        partsByTheirFirstCells();
        borderAlsoAtTheEdge();
        holes();
        far();
        eachActIsAChange();
        asItWasToo();
        last40AreKnown();
        lastOneFirst();
        seedsWrap();
        upper16Bits();
        sheets0To3();
        forms();
        items0To60();
        findingsAnswer();
        findingsChangeCount8();
        eachFinding();
        firstThatFits();
        refusalsChangeNothing();
        eachTellsDarkCells();
        S.end("Terms");
    }

    private static void eachWithin(Map<String, Call> calls, int least, int most) {
        calls.forEach((name, call) -> {
            S.taken(name + " with " + least, call.with(Sentences.busy(5), least));
            S.taken(name + " with " + most, call.with(Sentences.busy(5), most));
            for (int no : new int[] {least - 1, most + 1, LEAST, MOST}) {
                S.refused(name + " with " + no, q -> call.with(q, no), -2);
            }
        });
    }

    private static void masksAre0To3() {
        S.of("What it is", "MASKS are 0 to 3");
        Map<String, Call> calls = new LinkedHashMap<>();
        calls.put("fill", (q, m) -> q.fill(m, 0, 0, 1, 1, 1));
        calls.put("dots", (q, m) -> q.dots(m, 1, 1));
        calls.put("join a", (q, m) -> q.join(0, m, 1, 2));
        calls.put("join b", (q, m) -> q.join(0, 1, m, 2));
        calls.put("join to", (q, m) -> q.join(0, 1, 2, m));
        calls.put("over a", (q, m) -> q.over(m, 1));
        calls.put("over to", (q, m) -> q.over(1, m));
        calls.put("move a", (q, m) -> q.move(m, 1, 1, 1));
        calls.put("move to", (q, m) -> q.move(1, 1, 1, m));
        calls.put("turn a", (q, m) -> q.turn(m, 1, 1));
        calls.put("turn to", (q, m) -> q.turn(1, 1, m));
        calls.put("band a", (q, m) -> q.band(m, 1, 1));
        calls.put("band to", (q, m) -> q.band(1, 1, m));
        calls.put("pick a", (q, m) -> q.pick(m, 6, 6, 1));
        calls.put("pick to", (q, m) -> q.pick(1, 6, 6, m));
        calls.put("read", (q, m) -> q.read(m, 0));
        calls.put("cell", (q, m) -> q.cell(m, 0, 0));
        calls.put("block", (q, m) -> q.block(m, 0, 0, 0));
        calls.put("blocks", (q, m) -> q.blocks(m, 0));
        calls.put("shown", (q, m) -> q.shown(m, 0));
        calls.put("all", (q, m) -> q.all(m, 0));
        calls.put("label", (q, m) -> q.label(m, 6, 6));
        calls.put("part", (q, m) -> q.part(m, 0, 0));
        calls.put("near", (q, m) -> q.near(m, 0, 0));
        calls.put("both a", (q, m) -> q.both(m, 1, 0));
        calls.put("both b", (q, m) -> q.both(1, m, 0));
        calls.put("write", (q, m) -> q.write(m, 0, 0));
        eachWithin(calls, 0, 3);
    }

    private static void cellsAre0To15() {
        S.of("What it is", "CELLS at x (0 to 15), y (0 to 15)");
        Map<String, Call> calls = new LinkedHashMap<>();
        calls.put("fill x", (q, x) -> q.fill(0, x, 0, 1, 1, 1));
        calls.put("fill y", (q, y) -> q.fill(0, 0, y, 1, 1, 1));
        calls.put("pick x", (q, x) -> q.pick(3, x, 0, 0));
        calls.put("pick y", (q, y) -> q.pick(3, 0, y, 0));
        calls.put("cell x", (q, x) -> q.cell(0, x, 0));
        calls.put("cell y", (q, y) -> q.cell(0, 0, y));
        calls.put("block x", (q, x) -> q.block(0, x, 0, 0));
        calls.put("block y", (q, y) -> q.block(0, 0, y, 0));
        calls.put("label x", (q, x) -> q.label(3, x, 0));
        calls.put("label y", (q, y) -> q.label(3, 0, y));
        calls.put("near x", (q, x) -> q.near(0, x, 0));
        calls.put("near y", (q, y) -> q.near(0, 0, y));
        eachWithin(calls, 0, 15);
    }

    private static void at512Calls() {
        QuarterMasks q = S.of("What it is", "An object is used for at most 512 calls after it has been made");
        for (int i = 1; i <= 508; i++) S.due("call " + i, q.fill(2, 0, 0, 16, 16, i % 2), i % 2 * 256);
        S.due("call 509", q.count(6), 40);
        S.due("call 510", q.back(), 39);
        S.due("call 511", q.count(2), 256);
        S.due("call 512", q.fill(3, 15, 15, 1, 1, 1), 1);
    }

    private static void signsAre(QuarterMasks q, int mask, int... signs) {
        S.due("signs of " + mask, q.shown(mask, -1), signs.length);
        for (int i = 0; i < signs.length; i++) S.due("sign " + i + " of " + mask, q.shown(mask, i), signs[i]);
    }

    private static void alikeOrMixed() {
        QuarterMasks q = S.of("Terms", "is a BLOCK, if all its CELLS are alike, light or dark; else it is MIXED");
        signsAre(q, 0, 0);
        q.fill(0, 0, 0, 16, 16, 1);
        signsAre(q, 0, 1);
        int[][] corners = {{0, 0}, {15, 0}, {0, 15}, {15, 15}, {7, 8}};
        for (int v = 0; v < 2; v++) {
            for (int[] c : corners) {
                q.fill(1, 0, 0, 16, 16, 1 - v);
                q.fill(1, c[0], c[1], 1, 1, v);
                String one = "one cell " + v + " at " + c[0] + " " + c[1];
                S.due(one + ": the whole", q.shown(1, 0), 2);
                S.due(one + ": mixed squares", q.blocks(1, 2), 4);
                S.due(one + ": blocks", q.blocks(1, 0), 13);
                S.due(one + ": its own block", q.block(1, c[0], c[1], 2), 1);
            }
        }
    }

    private static void theWholeFirst() {
        QuarterMasks q = S.of("Terms", "A SQUARE of a MASK (the whole of 16 by 16 first)");
        S.due("light", q.block(0, 15, 15, 2), 16);
        q.fill(0, 0, 0, 16, 16, 1);
        S.due("dark", q.block(0, 15, 15, 2), 16);
        // Four cells in the midst are alike, but in no square of their own.
        q.fill(0, 7, 7, 2, 2, 0);
        S.due("across quarters", q.block(0, 7, 7, 2), 1);
        S.due("light blocks", q.blocks(0, 0) - q.blocks(0, 1), 4);
    }

    private static void fourQuarters() {
        QuarterMasks q = S.of("Terms",
            "and has four QUARTERS: 0 with the lesser x and y, 1 with the greater x and the lesser y, 2 with the "
            + "lesser x and the greater y, 3 with the greater ones, each a SQUARE");
        for (int side = 8; side >= 1; side /= 2) {
            int last = 16 - 2 * side;
            for (int quarter = 0; quarter < 4; quarter++) {
                q.fill(0, 0, 0, 16, 16, 0);
                q.fill(0, last + quarter % 2 * side, last + quarter / 2 * side, side, side, 1);
                int signs = q.shown(0, -1);
                for (int i = 0; i < 4; i++) {
                    S.due("side " + side + ", dark " + quarter + ", sign of " + i, q.shown(0, signs - 4 + i), i == quarter ? 1 : 0);
                }
            }
        }
    }

    private static void shownAsSigns() {
        QuarterMasks q = S.of("Terms",
            "A MASK is SHOWN as signs: a light BLOCK 0, a dark one 1, a MIXED SQUARE 2 and then its four "
            + "QUARTERS, in order.");
        signsAre(q, 0, 0);
        q.fill(0, 0, 0, 1, 1, 1);
        q.fill(0, 15, 15, 1, 1, 1);
        signsAre(q, 0, 2, 2, 2, 2, 1, 0, 0, 0, 0, 0, 0, 0, 0, 0, 0, 0, 2, 0, 0, 0, 2, 0, 0, 0, 2, 0, 0, 0, 1);
        q.fill(1, 0, 0, 16, 16, 1);
        q.fill(1, 8, 0, 4, 4, 0);
        signsAre(q, 1, 2, 1, 2, 0, 1, 1, 1, 1, 1);
        q.over(1, 1);
        signsAre(q, 1, 2, 0, 2, 1, 0, 0, 0, 0, 0);
        for (int y = 0; y < 16; y++) q.fill(2, 0, y, 16, 1, y % 2);
        S.due("rows: each square but cells is mixed", q.shown(2, -1), 341);
        int[] first = {2, 2, 2, 2, 0, 0, 1, 1, 2, 0, 0, 1, 1};
        for (int i = 0; i < first.length; i++) S.due("rows: sign " + i, q.shown(2, i), first[i]);
    }

    private static void areNeighbours(int x, int y, int u, int v, int want) {
        QuarterMasks q = new QuarterMasks();
        q.fill(0, x, y, 1, 1, 1);
        q.fill(1, u, v, 1, 1, 1);
        q.join(0, 0, 1, 2);
        String both = x + " " + y + " and " + u + " " + v;
        S.due(both + ", both", q.both(0, 1, 3), want);
        S.due(both + ", both the other way", q.both(1, 0, 3), want);
        S.due(both + ", in one part", q.label(2, x, y) == q.label(2, u, v) && !(x == u && y == v) ? 1 : 0, want);
    }

    private static void neighbours() {
        S.of("Terms", "Two CELLS are NEIGHBOURS, if they are next to each other in x or in y.");
        int[][] next = {{5, 5, 6, 5}, {5, 5, 4, 5}, {5, 5, 5, 6}, {5, 5, 5, 4}, {0, 0, 1, 0}, {0, 0, 0, 1}, {15, 15, 14, 15},
            {15, 15, 15, 14}, {7, 7, 8, 7}, {7, 7, 7, 8}};
        for (int[] n : next) areNeighbours(n[0], n[1], n[2], n[3], 1);
        int[][] apart = {{5, 5, 6, 6}, {5, 5, 4, 6}, {5, 5, 6, 4}, {5, 5, 4, 4}, {5, 5, 7, 5}, {5, 5, 5, 7}, {5, 5, 5, 5},
            {15, 3, 0, 3}, {3, 15, 3, 0}, {15, 3, 0, 4}, {0, 0, 15, 15}};
        for (int[] n : apart) areNeighbours(n[0], n[1], n[2], n[3], 0);
    }

    private static void andSoOn() {
        QuarterMasks q = S.of("Terms",
            "A PART of a MASK is a dark CELL and all dark ones that are NEIGHBOURS of it, or of these, and so on");
        S.due("light: no part", q.all(0, 0), 0);
        for (int y = 0; y < 16; y += 2) q.fill(0, 0, y, 16, 1, 1);
        for (int y = 1; y < 15; y += 2) q.fill(0, y % 4 == 1 ? 15 : 0, y, 1, 1, 1);
        S.due("a way through all rows", q.all(0, 0), 1);
        S.due("its cells", q.part(0, 0, 0), 135);
        S.due("its end", q.label(0, 0, 14), 0);
        q.turn(0, 1, 1);
        S.due("turned", q.part(1, 0, 0), 135);
        q.fill(0, 15, 13, 1, 1, 0);
        q.fill(0, 0, 13, 1, 1, 0);
        q.fill(0, 15, 14, 1, 1, 0);
        S.due("cut once", q.all(0, 0), 2);
        q.fill(2, 0, 0, 16, 16, 1);
        S.due("dark: one part", q.all(2, 0), 1);
        S.due("dark: all cells", q.part(2, 0, 0), 256);
        // Two arms that come together in the last row alone.
        q.fill(3, 0, 0, 1, 16, 1);
        q.fill(3, 15, 0, 1, 16, 1);
        S.due("two arms", q.all(3, 0), 2);
        q.fill(3, 0, 15, 16, 1, 1);
        S.due("come together", q.all(3, 0), 1);
    }

    private static void partsByTheirFirstCells() {
        QuarterMasks q = S.of("Terms", "PARTS are numbered by their first CELLS, by y, of like ones by x, 0 on.");
        q.fill(0, 15, 0, 1, 1, 1);
        q.fill(0, 0, 1, 1, 1, 1);
        S.due("by y first", q.label(0, 15, 0), 0);
        S.due("and then", q.label(0, 0, 1), 1);
        q.fill(1, 9, 4, 1, 1, 1);
        q.fill(1, 2, 4, 1, 1, 1);
        S.due("of like y by x", q.label(1, 2, 4), 0);
        S.due("the greater x", q.label(1, 9, 4), 1);
        // The part on the right begins a row above; its other cells are left of, and below, the part in the midst.
        q.fill(2, 10, 2, 1, 6, 1);
        q.fill(2, 1, 7, 10, 1, 1);
        q.fill(2, 5, 3, 1, 1, 1);
        q.fill(2, 0, 3, 1, 1, 1);
        S.due("by its first cell alone", q.label(2, 1, 7), 0);
        S.due("the second", q.label(2, 0, 3), 1);
        S.due("the third", q.label(2, 5, 3), 2);
        q.fill(2, 10, 2, 1, 6, 0);
        S.due("another first cell, another number", q.label(2, 1, 7), 2);
    }

    private static void borderAlsoAtTheEdge() {
        QuarterMasks q = S.of("Terms",
            "Its BORDER is how many sides of its CELLS have no dark CELL on the other side (also at the edge).");
        int[][] places = {{0, 0}, {15, 0}, {0, 15}, {15, 15}, {0, 7}, {15, 7}, {7, 0}, {7, 15}, {7, 7}};
        for (int[] p : places) {
            q.fill(0, 0, 0, 16, 16, 0);
            q.fill(0, p[0], p[1], 1, 1, 1);
            S.due("a cell at " + p[0] + " " + p[1], q.part(0, 0, 1), 4);
            S.due("all at " + p[0] + " " + p[1], q.all(0, 1), 4);
        }
        q.fill(0, 0, 0, 16, 16, 1);
        S.due("dark", q.part(0, 0, 1), 64);
        q.fill(0, 7, 7, 2, 1, 0);
        S.due("around a hole too", q.part(0, 0, 1), 70);
        q.fill(0, 0, 0, 1, 1, 0);
        S.due("a corner cell off", q.part(0, 0, 1), 70);
        q.fill(0, 8, 0, 1, 1, 0);
        S.due("an edge cell off", q.part(0, 0, 1), 72);
        q.fill(1, 0, 0, 16, 1, 1);
        S.due("a row at the edge", q.part(1, 0, 1), 34);
        q.fill(1, 0, 2, 1, 14, 1);
        S.due("of one part alone", q.part(1, 0, 1), 34);
        S.due("of the other", q.part(1, 1, 1), 30);
        S.due("of all", q.all(1, 1), 64);
    }

    private static void holes() {
        QuarterMasks q = S.of("Terms", "A HOLE is the like of light CELLS, none of which is at the edge.");
        S.due("a light mask", q.all(0, 2), 0);
        q.fill(0, 0, 0, 16, 16, 1);
        S.due("a dark mask", q.all(0, 2), 0);
        int[][] off = {{1, 1}, {14, 1}, {1, 14}, {14, 14}, {1, 7}, {14, 7}, {7, 1}, {7, 14}, {7, 7}};
        int[][] at = {{0, 0}, {15, 0}, {0, 15}, {15, 15}, {0, 7}, {15, 7}, {7, 0}, {7, 15}};
        for (int[] c : off) {
            q.fill(1, 0, 0, 16, 16, 1);
            q.fill(1, c[0], c[1], 1, 1, 0);
            S.due("a cell at " + c[0] + " " + c[1], q.all(1, 2), 1);
        }
        for (int[] c : at) {
            q.fill(1, 0, 0, 16, 16, 1);
            q.fill(1, c[0], c[1], 1, 1, 0);
            S.due("a cell at " + c[0] + " " + c[1], q.all(1, 2), 0);
        }
        q.fill(0, 1, 1, 14, 14, 0);
        S.due("all but the edge", q.all(0, 2), 1);
        q.fill(0, 7, 0, 1, 1, 0);
        S.due("with a way to the edge", q.all(0, 2), 0);
        q.fill(2, 0, 0, 16, 16, 1);
        q.fill(2, 0, 0, 1, 1, 0);
        q.fill(2, 1, 1, 1, 1, 0);
        q.fill(2, 2, 2, 1, 1, 0);
        S.due("over corners there is no way", q.all(2, 2), 2);
        q.fill(3, 1, 1, 13, 13, 1);
        q.fill(3, 2, 2, 11, 11, 0);
        q.fill(3, 4, 4, 5, 5, 1);
        q.fill(3, 5, 5, 3, 3, 0);
        S.due("one in another", q.all(3, 2), 2);
    }

    private static void far() {
        QuarterMasks q = S.of("Terms", "CELLS are FAR as much as their x and y are unlike, together.");
        q.fill(0, 15, 0, 1, 1, 1);
        S.due("itself", q.near(0, 15, 0), 0);
        S.due("in x alone", q.near(0, 0, 0), 15);
        S.due("in y alone", q.near(0, 15, 15), 15);
        S.due("together", q.near(0, 0, 15), 30);
        S.due("a corner on", q.near(0, 14, 1), 2);
        S.due("no way round the edge", q.near(0, 1, 0), 14);
        q.band(0, 2, 1);
        S.due("a band of 2", q.count(1), 6);
        S.due("its slanting side", q.cell(1, 14, 1) + 10 * q.cell(1, 14, 2), 1);
    }

    private static Map<String, Call> acts() {
        Map<String, Call> acts = new LinkedHashMap<>();
        acts.put("fill", (q, m) -> q.fill(m, 1, 2, 3, 4, 0));
        acts.put("dots", (q, m) -> q.dots(m, 9, 20));
        acts.put("join", (q, m) -> q.join(3, 0, 1, m));
        acts.put("over", (q, m) -> q.over(1, m));
        acts.put("move", (q, m) -> q.move(1, 1, -1, m));
        acts.put("turn", (q, m) -> q.turn(1, 1, m));
        acts.put("band", (q, m) -> q.band(1, 1, m));
        acts.put("pick", (q, m) -> q.pick(2, 6, 6, m));
        acts.put("read", (q, m) -> q.read(m, 0));
        return acts;
    }

    private static void eachActIsAChange() {
        S.of("Terms", "CHANGES: each act by which a MASK becomes something is one");
        acts().forEach((name, act) -> {
            QuarterMasks q = new QuarterMasks();
            q.fill(1, 0, 0, 8, 8, 1);
            q.fill(2, 6, 6, 1, 1, 1);
            q.fill(3, 2, 2, 9, 9, 1);
            q.sheet(0, 0, 1);
            long before = q.digest();
            act.with(q, 3);
            S.due(name + " is a change", q.count(6), 4);
            S.due(name + " is undone", q.back(), 3);
            S.due(name + " undone is as before", q.digest(), before);
        });
        QuarterMasks q = Sentences.busy(5);
        q.back();
        q.sheet(3, 1, 4);
        q.lay(3, 1, 0, 1);
        q.copy(3, 0, 3, 1, 1);
        q.write(0, 0, 3);
        q.lose(3);
        q.shown(0, 0);
        q.label(0, 6, 6);
        q.digest();
        S.due("neither sheets nor questions are", q.count(6), 39);
    }

    private static void asItWasToo() {
        S.of("Terms", "(if it is as it was, too)");
        Map<String, Call> acts = new LinkedHashMap<>();
        acts.put("fill of no width", (q, m) -> q.fill(m, 3, 3, 0, 5, 1));
        acts.put("fill of no height", (q, m) -> q.fill(m, 3, 3, 5, 0, 0));
        acts.put("fill with the same", (q, m) -> q.fill(m, 6, 6, 1, 1, 1));
        acts.put("dots, none", (q, m) -> q.dots(m, 9, 0));
        acts.put("join with itself", (q, m) -> q.join(0, m, m, m));
        acts.put("move by nothing", (q, m) -> q.move(m, 0, 0, m));
        acts.put("turn by nothing", (q, m) -> q.turn(m, 0, m));
        acts.put("band of 0", (q, m) -> q.band(m, 0, m));
        acts.put("pick of the only part", (q, m) -> q.pick(m, 6, 6, m));
        acts.put("read of what it is", (q, m) -> q.write(m, 0, 3) > 0 ? q.read(m, 3) : -9);
        acts.forEach((name, act) -> {
            QuarterMasks q = Sentences.busy(5);
            q.sheet(3, 0, 60);
            for (int i = 0; i < 20; i++) q.back();
            q.fill(2, 0, 0, 16, 16, 0);
            q.fill(2, 6, 6, 1, 1, 1);
            S.taken(name, act.with(q, 2));
            S.due(name + " is a change", q.count(6), 23);
            S.due(name + " is undone", q.back(), 22);
            S.due(name + ", as it was", q.count(2), 1);
            q.back();
            S.due(name + ", the one before", q.count(2), 0);
        });
    }

    private static void last40AreKnown() {
        S.of("Terms", "the last 40 are known");
        for (int made : new int[] {1, 39, 40, 41, 79, 80, 81, 120, 121}) {
            QuarterMasks q = new QuarterMasks();
            for (int i = 0; i < made; i++) q.fill(i % 4, i % 16, i / 16, 1, 1, 1);
            int known = Math.min(made, 40);
            S.due(made + " changes: known", q.count(6), known);
            for (int left = known - 1; left >= 0; left--) S.due(made + " changes: still known", q.back(), left);
            S.due(made + " changes: no more", q.back(), -3);
            S.due(made + " changes: what stays", q.count(0) + q.count(1) + q.count(2) + q.count(3), made - known);
        }
    }

    private static void lastOneFirst() {
        QuarterMasks q = S.of("Terms", "and can be undone, the last one first.");
        long[] digests = new long[100];
        int at = 0;
        digests[0] = q.digest();
        // On by 38, back by 20, on by 35, back by 40: more than once round a ring of 40.
        int[] steps = {38, -20, 35, -40};
        int known = 0;
        for (int step : steps) {
            for (int i = 0; i < step; i++) {
                at++;
                q.dots(at % 4, 77 * at, 3 + at % 5);
                known = Math.min(known + 1, 40);
                digests[at] = q.digest() - known(known);
            }
            for (int i = 0; i > step; i--) {
                at--;
                known--;
                S.due("known after one undone", q.back(), known);
                S.due("as before it", q.digest() - known(known), at == 0 ? digests[0] : digests[at]);
            }
        }
        S.due("none is left", q.back(), -3);
    }

    /** What count(6), the seventh of a digest's 8 counts, adds to it: all that is told after it is 4 times 182. */
    private static long known(int changes) {
        long weight = 1;
        for (int i = 0; i < 1 + 4 * (4 + 4 + 42 + 4 * 24 + 24 + 16); i++) weight *= 31;
        return weight * changes;
    }

    private static void seedsWrap() {
        S.of("Terms", "LOTS of m: SEED becomes 1103515245 SEED and 12345, as ints that wrap");
        for (int seed : new int[] {0, 1, 2, -1, -2, LEAST, LEAST + 1, MOST, MOST - 1, 1 << 16, -(1 << 16), 1 << 30}) {
            for (int n = 1; n <= 4; n++) {
                QuarterMasks q = new QuarterMasks();
                q.dots(0, seed, n - 1);
                q.dots(1, seed, n);
                q.join(3, 0, 1, 2);
                int cell = Sentences.lots(seed, n)[n - 1];
                S.due("seed " + seed + ", lot " + n + " is one cell", q.count(2), 1);
                S.due("seed " + seed + ", lot " + n, q.cell(2, cell % 16, cell / 16), 1);
            }
        }
    }

    private static void upper16Bits() {
        S.of("Terms", "its upper 16 bits as a number from 0 on, modulo m.");
        // Seeds whose first lot has the int's sign bit set and upper bits of 32768, 65535 and 33023, and without it
        // 32767 and 255: as numbers from 0 on 0, 255, 255, 255 and 255 of 256.
        int[] upper = {32768, 65535, 33023, 32767, 255, 0, 256};
        int[] cells = {0, 255, 255, 255, 255, 0, 0};
        for (int i = 0; i < upper.length; i++) {
            int seed = seedOf(upper[i]);
            QuarterMasks q = new QuarterMasks();
            S.due("upper " + upper[i], q.dots(0, seed, 1), 1);
            S.due("upper " + upper[i] + ": its cell", q.cell(0, cells[i] % 16, cells[i] / 16), 1);
        }
    }

    /** The seed whose first lot has these upper bits, and 0 below: 1103515245 has an inverse for ints, as it is odd. */
    private static int seedOf(int upper) {
        int inverse = 1;
        for (int i = 0; i < 5; i++) inverse *= 2 - 1103515245 * inverse;
        return ((upper << 16) - 12345) * inverse;
    }

    private static void sheets0To3() {
        S.of("Terms", "SHEETS 0 .. 3 are LOST (at first) or a row");
        for (int s = 0; s < 4; s++) {
            S.due("lost at first, " + s, new QuarterMasks().lose(s), -11);
            S.due("a row then, " + s, new QuarterMasks().sheet(s, 0, 7), 7);
        }
        Map<String, Call> calls = new LinkedHashMap<>();
        calls.put("sheet", (q, s) -> q.sheet(s, 0, 1));
        calls.put("lose", (q, s) -> q.lose(s));
        calls.put("lay", (q, s) -> q.lay(s, 0, 0, 1));
        calls.put("copy s", (q, s) -> q.copy(s, 0, 0, 0, 0));
        calls.put("copy t", (q, s) -> q.copy(0, 0, s, 0, 0));
        calls.put("write", (q, s) -> q.write(0, 0, s));
        calls.put("read", (q, s) -> q.read(0, s));
        calls.forEach((name, call) -> {
            for (int no : new int[] {-1, 4, LEAST, MOST}) S.refused(name + " with " + no, q -> call.with(q, no), -2);
            for (int s = 0; s < 4; s += 3) {
                QuarterMasks q = new QuarterMasks();
                q.sheet(0, 0, 1);
                q.sheet(s, 0, 1);
                S.taken(name + " with " + s, call.with(q, s));
            }
        });
        for (int no : new int[] {-1, 4, LEAST, MOST}) S.refused("get with " + no, q -> q.get(no, 0, 0), LEAST);
    }

    private static void forms() {
        S.of("Terms", "of a FORM: 0 bytes, 1 shorts, 2 ints");
        int[] last = {-57, 15303, 998456263};
        for (int form = 0; form < 3; form++) {
            QuarterMasks q = new QuarterMasks();
            S.due("form " + form, q.sheet(1, form, 2), 2);
            S.due("laid, " + form, q.lay(1, form, 0, 998456263), 1);
            S.due("kept, " + form, q.get(1, form, 0), last[form]);
        }
        for (int no : new int[] {-1, 3, LEAST, MOST}) {
            S.refused("sheet of form " + no, q -> q.sheet(0, no, 1), -2);
            S.refused("lay as of form " + no, q -> q.lay(0, no, 0, 1), -2);
            S.refused("get as of form " + no, q -> q.get(0, no, 0), LEAST);
        }
    }

    private static void items0To60() {
        QuarterMasks q = S.of("Terms", "of 0 to 60 items (0 at first).");
        for (int form = 0; form < 3; form++) {
            S.due("none", q.sheet(0, form, 0), 0);
            S.due("none: no item 0", q.lay(0, form, 0, 1), -12);
            S.due("60", q.sheet(0, form, 60), 60);
            for (int i = 0; i < 60; i++) S.due("item " + i + " at first", q.get(0, form, i), 0);
            S.due("item 59", q.lay(0, form, 59, 1), 1);
            S.due("no item 60", q.lay(0, form, 60, 1), -12);
            S.due("anew", q.sheet(0, form, 60), 60);
            S.due("0 at first again", q.get(0, form, 59), 0);
            q.lay(0, form, 3, 9);
            q.sheet(0, form, 2);
            q.sheet(0, form, 4);
            S.due("0 at first after a shorter one", q.get(0, form, 3), 0);
        }
        S.refused("61", p -> p.sheet(0, 0, 61), -2);
        S.found("-1", p -> p.sheet(0, 0, -1), -15, 5);
    }

    private static void findingsAnswer() {
        QuarterMasks q = S.of("Terms", "FINDINGS (answers -10 less the number");
        q.sheet(0, 0, 3);
        q.sheet(1, 1, 3);
        S.due("1", q.lose(3), -11);
        S.due("2", q.lay(0, 0, 3, 0), -12);
        S.due("3", q.lay(0, 1, 0, 0), -13);
        S.due("4", q.copy(0, 0, 1, 0, 1), -14);
        S.due("5", q.sheet(0, 0, -1), -15);
    }

    private static void findingsChangeCount8() {
        QuarterMasks q = S.of("Terms", "they change nothing but count() 8)");
        q.sheet(0, 0, 3);
        q.sheet(1, 1, 3);
        q.fill(0, 1, 1, 3, 3, 1);
        long digest = q.digest();
        S.due("before any", q.count(8), 0);
        int[] told = {q.lose(3), q.count(8), q.lay(0, 0, 3, 0), q.count(8), q.lay(0, 1, 0, 0), q.count(8),
            q.copy(0, 0, 1, 0, 1), q.count(8), q.sheet(0, 0, -1), q.count(8)};
        for (int i = 1; i <= 5; i++) S.due("count(8) after " + told[2 * i - 2], told[2 * i - 1], i);
        S.due("a call that does well leaves it", q.lay(0, 0, 0, 4) + q.get(0, 0, 0) + q.count(8), 10);
        S.due("so does BAD", q.lose(4) + q.count(8), 3);
        S.due("so does NOT", q.pick(0, 0, 0, 0) + q.count(8), 2);
        S.due("and undoing", q.back() + q.count(8), 5);
        q.fill(0, 1, 1, 3, 3, 1);
        S.due("masks and changes stay", q.digest(), digest);
        S.found("NULL", p -> p.lose(3), -11, 1);
        S.found("INDEX", p -> p.lay(0, 0, 5, 0), -12, 2);
        S.found("CAST", p -> p.lay(0, 1, 0, 0), -13, 3);
        S.found("STORE", p -> p.copy(0, 0, 1, 0, 1), -14, 4);
        S.found("SIZE", p -> p.sheet(0, 0, -1), -15, 5);
    }

    private static void eachFinding() {
        S.of("Terms", ": 1 NULL: the SHEET is LOST;");
        S.found("lose", q -> q.lose(3), -11, 1);
        S.found("lay", q -> q.lay(3, 0, 0, 0), -11, 1);
        S.found("get", q -> q.get(3, 0, 0), LEAST, 1);
        S.found("copy from it", q -> q.copy(3, 0, 0, 0, 0), -11, 1);
        S.found("copy to it", q -> q.copy(0, 0, 3, 0, 0), -11, 1);
        S.found("write", q -> q.write(0, 0, 3), -11, 1);
        S.found("read", q -> q.read(0, 3), -11, 1);
        S.of("Terms", "2 INDEX: there is no such item;");
        for (int no : new int[] {-1, 5, LEAST, MOST}) {
            S.found("lay " + no, q -> q.lay(0, 0, no, 0), -12, 2);
            S.found("get " + no, q -> q.get(0, 0, no), LEAST, 2);
            S.found("copy from " + no, q -> q.copy(0, no, 0, 0, 1), -12, 2);
            S.found("copy to " + no, q -> q.copy(0, 0, 0, no, 1), -12, 2);
        }
        S.of("Terms", "3 CAST: it has another FORM;");
        for (int s = 0; s < 3; s++) {
            for (int form = 0; form < 3; form++) {
                int sheet = s;
                int as = form;
                if (s == form) continue;
                S.found("lay on " + s + " as " + form, q -> q.lay(sheet, as, 0, 1), -13, 3);
                S.found("get from " + s + " as " + form, q -> q.get(sheet, as, 0), LEAST, 3);
            }
        }
        S.of("Terms", "4 STORE: unlike FORMS;");
        int[][] pairs = {{0, 1}, {1, 0}, {0, 2}, {2, 0}, {1, 2}, {2, 1}};
        for (int[] p : pairs) S.found("copy " + p[0] + " to " + p[1], q -> q.copy(p[0], 0, p[1], 0, 1), -14, 4);
        S.of("Terms", "5 SIZE: below 0.");
        for (int no : new int[] {-1, -2, LEAST}) S.found("sheet of " + no, q -> q.sheet(0, 0, no), -15, 5);
    }

    private static void firstThatFits() {
        S.of("Terms",
            "Refusals, the first that fits, in the order told at each act: BAD -2 (a number not as told, no such "
            + "thing), NULL, NOT -3 (as told), other FINDINGS.");
        S.refused("pick: BAD, NOT", q -> q.pick(0, 0, 0, 4), -2);
        S.refused("pick: NOT", q -> q.pick(0, 0, 0, 3), -3);
        S.refused("read: BAD, NULL", q -> q.read(4, 3), -2);
        S.refused("read: BAD, NOT", q -> q.read(4, 1), -2);
        S.refused("read: NOT", q -> q.read(0, 1), -3);
        S.found("read: NULL", q -> q.read(0, 3), -11, 1);
        S.refused("sheet: BAD, SIZE", q -> q.sheet(4, 0, -1), -2);
        S.refused("lay: BAD, NULL, INDEX", q -> q.lay(3, 3, -1, 0), -2);
        S.refused("lay: BAD, INDEX", q -> q.lay(0, 3, -1, 0), -2);
        S.found("lay: NULL, CAST, INDEX", q -> q.lay(3, 2, -1, 0), -11, 1);
        S.found("lay: CAST, INDEX", q -> q.lay(0, 2, -1, 0), -13, 3);
        S.refused("get: BAD, NULL", q -> q.get(3, 3, -1), LEAST);
        S.found("get: NULL, CAST, INDEX", q -> q.get(3, 2, -1), LEAST, 1);
        S.found("get: CAST, INDEX", q -> q.get(0, 2, -1), LEAST, 3);
        S.refused("copy: BAD, NULL, INDEX", q -> q.copy(3, -1, 4, -1, -1), -2);
        S.found("copy: NULL, STORE, INDEX", q -> q.copy(1, -1, 3, -1, -1), -11, 1);
        S.found("copy: STORE, INDEX", q -> q.copy(1, -1, 0, -1, -1), -14, 4);
        S.refused("write: BAD, NULL", q -> q.write(0, 341, 3), -2);
    }

    private static void refusalsChangeNothing() {
        S.of("Terms", "They change nothing (FINDINGS but count() 8).");
        S.refused("fill", q -> q.fill(3, 0, 0, 17, 17, 0), -2);
        S.refused("dots", q -> q.dots(3, 1, 256), -2);
        S.refused("join", q -> q.join(4, 0, 1, 3), -2);
        S.refused("over", q -> q.over(4, 3), -2);
        S.refused("move", q -> q.move(0, 17, 0, 3), -2);
        S.refused("turn", q -> q.turn(0, 4, 3), -2);
        S.refused("band", q -> q.band(0, 31, 3), -2);
        S.refused("pick", q -> q.pick(0, 0, 0, 3), -3);
        S.refused("read", q -> q.read(3, 1), -3);
        S.found("read", q -> q.read(3, 3), -11, 1);
        S.found("sheet", q -> q.sheet(0, 2, -7), -15, 5);
        S.found("lose", q -> q.lose(3), -11, 1);
        S.found("lay", q -> q.lay(2, 1, 0, 5), -13, 3);
        S.found("get", q -> q.get(2, 2, 2), LEAST, 2);
        S.found("copy that ends beyond", q -> q.copy(0, 0, 0, 1, 5), -12, 2);
        S.found("write", q -> q.write(3, 0, 3), -11, 1);
        QuarterMasks q = Sentences.busy(5);
        for (int i = 0; i < 40; i++) q.back();
        long digest = q.digest();
        S.due("back", q.back(), -3);
        S.due("back changes nothing", q.digest(), digest);
        S.due("back is no finding", q.count(8), 5);
    }

    private static void eachTellsDarkCells() {
        S.of("Terms", "each tells how many cells of it are dark then.");
        acts().forEach((name, act) -> {
            if (name.equals("read")) return;
            QuarterMasks q = Sentences.busy(5);
            S.due(name, act.with(q, 3), q.count(3));
        });
        QuarterMasks q = new QuarterMasks();
        S.due("none", q.fill(0, 0, 0, 16, 16, 0), 0);
        S.due("all", q.over(0, 1), 256);
        S.due("of to, not of a", q.move(1, 15, 15, 2), 1);
        S.due("of to, not of a and b", q.join(2, 1, 2, 3), 255);
    }
}
