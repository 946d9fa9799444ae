import java.math.BigInteger;
import java.util.ArrayList;
import java.util.List;
import java.util.function.Supplier;

/** The boundary cases of promises 21 to 28, sheets, counts and the digest, a test for each sentence. */
final class SheetBoundaryTest {
    private static final int LEAST = Sentences.LEAST;
    private static final int MOST = Sentences.MOST;
    private static final int[] NO_SHEET = {-1, 4, LEAST, MOST};
    private static final int[] NO_FORM = {-1, 3, LEAST, MOST};
    private static final Sentences S = new Sentences("SheetBoundaryTest");

    public static void main(String[] args) {
        sheetItems();
        sheetBad();
        sheetSize();
        loseItems();
        loseRefused();
        layItem();
        layLowestBits();
        layRefused();
        getItem();
        getBad();
        getFindings();
        getCount8();
        copyItems();
        copyWithin();
        copyBad();
        copyNull();
        copyStore();
        copyIndex();
        copyNone();
        writeFrom();
        writeLowestBits();
        writeAsMany();
        writeRefused();
        countDark();
        countBlocks();
        countParts();
        countChanges();
        countDarkInAll();
        countFinding();
        countBad();
        digestBegins();
        digestOrder();
        digestCounts();
        digestSigns();
        digestCells();
        digestParts();
        digestPairs();
        digestWraps();
        S.end("21", "22", "23", "24", "25", "26", "27", "28");
    }

    private static void itemsAre(QuarterMasks q, String what, int s, int form, int... items) {
        for (int i = 0; i < items.length; i++) S.due(what + ", item " + i, q.get(s, form, i), items[i]);
        S.due(what + ", no more", q.get(s, form, items.length), LEAST);
    }

    private static void sheetItems() {
        QuarterMasks q = S.of("21", "A SHEET is a new row of a FORM with n items: n.");
        for (int form = 0; form < 3; form++) {
            S.due("none", q.sheet(form, form, 0), 0);
            itemsAre(q, "none", form, form);
            S.due("one", q.sheet(form, form, 1), 1);
            itemsAre(q, "one", form, form, 0);
            S.due("60", q.sheet(form, form, 60), 60);
            S.due("the last of 60", q.get(form, form, 59), 0);
            S.due("none behind", q.get(form, form, 60), LEAST);
        }
        Sentences.layAll(q, 0, 2, 5, 6, 7);
        S.due("new, of another form", q.sheet(0, 1, 4), 4);
        itemsAre(q, "new", 0, 1, 0, 0, 0, 0);
        S.due("not of the form that it had", q.lay(0, 2, 0, 1), -13);
        q.lose(0);
        S.due("new, after it was lost", q.sheet(0, 2, 2), 2);
        itemsAre(q, "after it was lost", 0, 2, 0, 0);
        S.due("the others stay", q.lose(1) + q.lose(2), 120);
    }

    private static void sheetBad() {
        S.of("21", "BAD: SHEET, FORM, above 60;");
        for (int no : NO_SHEET) {
            S.refused("sheet " + no, q -> q.sheet(no, 0, 1), -2);
            S.refused("sheet " + no + ", ahead of SIZE", q -> q.sheet(no, 0, -1), -2);
        }
        for (int no : NO_FORM) {
            S.refused("form " + no, q -> q.sheet(0, no, 1), -2);
            S.refused("form " + no + ", ahead of SIZE", q -> q.sheet(0, no, -1), -2);
        }
        for (int no : new int[] {61, 62, 256, MOST}) S.refused("items " + no, q -> q.sheet(0, 0, no), -2);
        S.refused("61 items on a lost sheet", q -> q.sheet(3, 0, 61), -2);
    }

    private static void sheetSize() {
        S.of("21", "SIZE.");
        for (int no : new int[] {-1, -60, LEAST}) {
            S.found("items " + no, q -> q.sheet(0, 0, no), -15, 5);
            S.found("items " + no + ", on a lost sheet", q -> q.sheet(3, 2, no), -15, 5);
        }
    }

    private static void loseItems() {
        QuarterMasks q = S.of("22", "It is LOST: how many items it had.");
        for (int n : new int[] {0, 1, 59, 60}) {
            q.sheet(1, 1, n);
            S.due("of " + n, q.lose(1), n);
            S.due("it is lost", q.lay(1, 1, 0, 0), -11);
        }
        q.sheet(0, 0, 3);
        q.sheet(2, 0, 4);
        q.sheet(1, 0, 5);
        q.lose(1);
        S.due("the others stay", q.lose(0) + q.lose(2), 7);
    }

    private static void loseRefused() {
        S.of("22", "BAD; NULL.");
        for (int no : NO_SHEET) S.refused("sheet " + no, q -> q.lose(no), -2);
        S.found("a lost one", q -> q.lose(3), -11, 1);
        QuarterMasks q = new QuarterMasks();
        q.sheet(0, 0, 0);
        S.due("once", q.lose(0), 0);
        S.due("not twice", q.lose(0), -11);
    }

    private static void layItem() {
        QuarterMasks q = S.of("23", "Item i, treated as of a FORM, becomes v");
        q.sheet(0, 2, 60);
        S.due("the first", q.lay(0, 2, 0, 7), 1);
        S.due("the last", q.lay(0, 2, 59, 8), 1);
        S.due("they are", q.get(0, 2, 0) + 10 * q.get(0, 2, 59), 87);
        S.due("the others stay", q.get(0, 2, 1) + q.get(0, 2, 58), 0);
        S.due("again", q.lay(0, 2, 0, 0), 1);
        S.due("it is", q.get(0, 2, 0), 0);
    }

    private static void layLowestBits() {
        QuarterMasks q = S.of("23", "(the lowest bits that it has, with its sign): 1.");
        int[][] bytes = {{0, 0}, {127, 127}, {128, -128}, {255, -1}, {256, 0}, {-1, -1}, {-128, -128}, {-129, 127}, {-256, 0},
            {MOST, -1}, {LEAST, 0}};
        int[][] shorts = {{0, 0}, {128, 128}, {32767, 32767}, {32768, -32768}, {65535, -1}, {65536, 0}, {-1, -1}, {-32768, -32768},
            {-32769, 32767}, {MOST, -1}, {LEAST, 0}};
        int[][] ints = {{0, 0}, {32768, 32768}, {65536, 65536}, {-1, -1}, {MOST, MOST}, {LEAST, LEAST}};
        int[][][] of = {bytes, shorts, ints};
        for (int form = 0; form < 3; form++) {
            q.sheet(0, form, 1);
            for (int[] v : of[form]) {
                S.due("lay " + v[0] + " as of form " + form, q.lay(0, form, 0, v[0]), 1);
                S.due("it is", q.get(0, form, 0), v[1]);
            }
        }
        S.due("no finding", q.count(8), 0);
    }

    private static void layRefused() {
        S.of("23", "BAD; NULL; CAST; INDEX.");
        for (int no : NO_SHEET) S.refused("sheet " + no, q -> q.lay(no, 0, 0, 1), -2);
        for (int no : NO_FORM) {
            S.refused("form " + no, q -> q.lay(0, no, 0, 1), -2);
            S.refused("form " + no + ", of a lost sheet", q -> q.lay(3, no, 0, 1), -2);
            S.refused("form " + no + ", no such item", q -> q.lay(0, no, 5, 1), -2);
        }
        for (int form = 0; form < 3; form++) {
            int as = form;
            S.found("a lost sheet as of form " + form, q -> q.lay(3, as, 0, 1), -11, 1);
            S.found("a lost sheet, no such item, as of form " + form, q -> q.lay(3, as, -1, 1), -11, 1);
        }
        S.found("CAST", q -> q.lay(0, 1, 0, 1), -13, 3);
        for (int no : new int[] {-1, 5, LEAST, MOST}) {
            S.found("CAST ahead of INDEX " + no, q -> q.lay(0, 2, no, 1), -13, 3);
            S.found("INDEX " + no, q -> q.lay(0, 0, no, 1), -12, 2);
        }
        QuarterMasks q = new QuarterMasks();
        q.sheet(0, 0, 0);
        S.due("INDEX 0 of no items", q.lay(0, 0, 0, 1), -12);
        q.sheet(0, 0, 60);
        S.due("INDEX 60 of 60", q.lay(0, 0, 60, 1), -12);
    }

    private static void getItem() {
        QuarterMasks q = S.of("24", "Item i of it.");
        q.sheet(0, 1, 60);
        q.lay(0, 1, 0, -3);
        q.lay(0, 1, 59, 4);
        S.due("the first", q.get(0, 1, 0), -3);
        S.due("the last", q.get(0, 1, 59), 4);
        S.due("one that was not laid", q.get(0, 1, 58), 0);
        S.due("no finding", q.count(8), 0);
    }

    private static void getBad() {
        S.of("24", "BAD: the least int;");
        for (int no : NO_SHEET) S.refused("sheet " + no, q -> q.get(no, 0, 0), LEAST);
        for (int no : NO_FORM) {
            S.refused("form " + no, q -> q.get(0, no, 0), LEAST);
            S.refused("form " + no + ", of a lost sheet", q -> q.get(3, no, 0), LEAST);
            S.refused("form " + no + ", no such item", q -> q.get(0, no, -1), LEAST);
        }
    }

    private static void getFindings() {
        S.of("24", "so are NULL, CAST, INDEX");
        for (int form = 0; form < 3; form++) {
            int as = form;
            S.found("NULL as of form " + form, q -> q.get(3, as, -1), LEAST, 1);
        }
        S.found("CAST", q -> q.get(0, 1, 0), LEAST, 3);
        for (int no : new int[] {-1, 5, LEAST, MOST}) {
            S.found("CAST ahead of INDEX " + no, q -> q.get(0, 2, no), LEAST, 3);
            S.found("INDEX " + no, q -> q.get(0, 0, no), LEAST, 2);
        }
        QuarterMasks q = new QuarterMasks();
        q.sheet(0, 0, 0);
        S.due("INDEX 0 of no items", q.get(0, 0, 0), LEAST);
    }

    private static void getCount8() {
        QuarterMasks q = S.of("24", "(count() 8 tells).");
        Sentences.layAll(q, 0, 2, LEAST);
        S.due("an item that is the least int", q.get(0, 2, 0), LEAST);
        S.due("is no finding", q.count(8), 0);
        q.get(4, 2, 0);
        S.due("nor is BAD", q.count(8), 0);
        q.get(1, 2, 0);
        S.due("NULL", q.count(8), 1);
        q.get(0, 2, 1);
        S.due("INDEX", q.count(8), 2);
        q.get(0, 0, 0);
        S.due("CAST", q.count(8), 3);
        q.get(0, 2, 0);
        S.due("an item leaves it", q.count(8), 3);
        q.get(0, 3, 0);
        S.due("BAD leaves it", q.count(8), 3);
    }

    private static void copyItems() {
        QuarterMasks q = S.of("25", "n items of SHEET s, from i on, come to SHEET t");
        Sentences.layAll(q, 0, 1, 1, 2, 3);
        Sentences.layAll(q, 1, 1, 4, 5, 6, 7);
        S.due("two", q.copy(0, 1, 1, 1, 2), 1);
        itemsAre(q, "two came", 1, 1, 4, 2, 3, 7);
        itemsAre(q, "they stay", 0, 1, 1, 2, 3);
        S.due("all of one to the end of the other", q.copy(0, 0, 1, 1, 3), 1);
        itemsAre(q, "all came", 1, 1, 4, 1, 2, 3);
        for (int form = 0; form < 3; form++) {
            q.sheet(2, form, 60);
            q.sheet(3, form, 60);
            q.lay(2, form, 0, 7);
            q.lay(2, form, 59, -9);
            S.due("60 of form " + form, q.copy(2, 0, 3, 0, 60), 1);
            S.due("60, first and last", q.get(3, form, 0) + 100 * q.get(3, form, 59), -893);
        }
    }

    private static void copyWithin() {
        QuarterMasks q = S.of("25", "(perhaps s, as they were), from j on: 1.");
        Sentences.layAll(q, 0, 2, 1, 2, 3, 4, 5);
        S.due("one to the right", q.copy(0, 0, 0, 1, 4), 1);
        itemsAre(q, "right", 0, 2, 1, 1, 2, 3, 4);
        S.due("one to the left", q.copy(0, 1, 0, 0, 4), 1);
        itemsAre(q, "left", 0, 2, 1, 2, 3, 4, 4);
        S.due("to where they are", q.copy(0, 0, 0, 0, 5), 1);
        itemsAre(q, "where they are", 0, 2, 1, 2, 3, 4, 4);
        S.due("the last to the first", q.copy(0, 4, 0, 0, 1), 1);
        itemsAre(q, "last", 0, 2, 4, 2, 3, 4, 4);
    }

    private static void copyBad() {
        S.of("25", "BAD: the SHEETS;");
        for (int no : NO_SHEET) {
            S.refused("s " + no, q -> q.copy(no, 0, 0, 0, 1), -2);
            S.refused("t " + no, q -> q.copy(0, 0, no, 0, 1), -2);
            S.refused("s " + no + ", ahead of NULL", q -> q.copy(no, 0, 3, 0, 1), -2);
            S.refused("t " + no + ", ahead of NULL and INDEX", q -> q.copy(3, -1, no, -1, -1), -2);
        }
    }

    private static void copyNull() {
        S.of("25", "NULL: s, t;");
        S.found("s", q -> q.copy(3, 0, 0, 0, 1), -11, 1);
        S.found("t", q -> q.copy(0, 0, 3, 0, 1), -11, 1);
        S.found("both", q -> q.copy(3, 0, 3, 0, 0), -11, 1);
        S.found("with no items", q -> q.copy(0, 0, 3, 0, 0), -11, 1);
        S.found("s, ahead of STORE and INDEX", q -> q.copy(3, -1, 1, 99, MOST), -11, 1);
        S.found("t, ahead of STORE and INDEX", q -> q.copy(2, -1, 3, 99, MOST), -11, 1);
    }

    private static void copyStore() {
        S.of("25", "STORE;");
        for (int s = 0; s < 3; s++) {
            for (int t = 0; t < 3; t++) {
                if (s == t) continue;
                int from = s;
                int to = t;
                S.found(s + " to " + t, q -> q.copy(from, 0, to, 0, 1), -14, 4);
                S.found(s + " to " + t + ", with no items", q -> q.copy(from, 0, to, 0, 0), -14, 4);
                S.found(s + " to " + t + ", ahead of INDEX", q -> q.copy(from, -1, to, 0, 1), -14, 4);
                S.found(s + " to " + t + ", ahead of INDEX of n", q -> q.copy(from, 0, to, 0, 61), -14, 4);
            }
        }
    }

    /** A copy between two sheets of shorts, of 3 and 5 items. */
    private static void copyIs(int i, int j, int n, int want) {
        QuarterMasks q = new QuarterMasks();
        Sentences.layAll(q, 0, 1, 1, 2, 3);
        Sentences.layAll(q, 1, 1, 4, 5, 6, 7, 8);
        String call = "copy from " + i + " to " + j + ", " + n;
        S.due(call, q.copy(0, i, 1, j, n), want);
        S.due(call + ": count(8)", q.count(8), want == 1 ? 0 : 2);
        if (want != 1) itemsAre(q, call + " brings nothing", 1, 1, 4, 5, 6, 7, 8);
    }

    private static void copyIndex() {
        S.of("25", "INDEX: below 0, not so many");
        int[][] well = {{0, 0, 3}, {0, 2, 3}, {2, 4, 1}, {1, 3, 2}};
        for (int[] w : well) copyIs(w[0], w[1], w[2], 1);
        int[][] below = {{-1, 0, 1}, {0, -1, 1}, {0, 0, -1}, {LEAST, 0, 1}, {0, LEAST, 1}, {0, 0, LEAST}, {-1, -1, -1}, {-1, 0, 0},
            {0, -1, 0}, {3, 5, -1}, {-1, 0, 2}, {LEAST, LEAST, LEAST}};
        for (int[] b : below) copyIs(b[0], b[1], b[2], -12);
        int[][] fewer = {{0, 0, 4}, {1, 0, 3}, {2, 0, 2}, {3, 0, 1}, {0, 3, 3}, {0, 5, 1}, {4, 0, 1}, {0, 6, 1}, {0, 0, MOST},
            {1, 0, MOST}, {0, 1, MOST}, {1, 1, MOST}, {3, 5, MOST}, {MOST, 0, 1}, {0, MOST, 1}, {MOST, MOST, MOST},
            {MOST, 0, 3}, {0, MOST, 3}};
        for (int[] f : fewer) copyIs(f[0], f[1], f[2], -12);
        S.found("within one sheet", q -> q.copy(0, 0, 0, 1, 5), -12, 2);
        S.found("within one sheet, from behind", q -> q.copy(0, 1, 0, 0, 5), -12, 2);
    }

    private static void copyNone() {
        QuarterMasks q = S.of("25", "(with n 0, too, if i or j is above how many there are).");
        copyIs(0, 0, 0, 1);
        copyIs(3, 5, 0, 1);
        copyIs(3, 0, 0, 1);
        copyIs(0, 5, 0, 1);
        copyIs(4, 0, 0, -12);
        copyIs(0, 6, 0, -12);
        copyIs(4, 6, 0, -12);
        copyIs(MOST, 0, 0, -12);
        copyIs(0, MOST, 0, -12);
        q.sheet(0, 0, 0);
        q.sheet(1, 0, 60);
        S.due("of a sheet of no items", q.copy(0, 0, 1, 60, 0), 1);
        S.due("one behind the last of 60", q.copy(0, 0, 1, 61, 0), -12);
        S.due("one behind none", q.copy(0, 1, 1, 0, 0), -12);
    }

    private static void writeFrom() {
        QuarterMasks q = S.of("26", "Signs of a MASK as SHOWN, from the i-th on (0 to 340), come to a SHEET");
        q.fill(0, 0, 0, 8, 8, 1);
        q.fill(0, 12, 12, 4, 4, 1);
        Sentences.layAll(q, 0, 0, 9, 9, 9, 9);
        S.due("from 0 on", q.write(0, 0, 0), 4);
        itemsAre(q, "from 0 on", 0, 0, 2, 1, 0, 0);
        S.due("from 4 on", q.write(0, 4, 0), 4);
        itemsAre(q, "from 4 on", 0, 0, 2, 0, 0, 0);
        S.due("from 5 on", q.write(0, 5, 0), 4);
        itemsAre(q, "from 5 on", 0, 0, 0, 0, 0, 1);
        Sentences.chequer(q, 1);
        Sentences.layAll(q, 1, 2, 9, 9);
        S.due("from 340 on, of 341", q.write(1, 340, 1), 1);
        itemsAre(q, "from 340 on", 1, 2, 1, 9);
        S.due("from 339 on", q.write(1, 339, 1), 2);
        itemsAre(q, "from 339 on", 1, 2, 0, 1);
        for (int no : new int[] {-1, 341, LEAST, MOST}) {
            S.refused("i " + no, p -> p.write(0, no, 0), -2);
            S.refused("i " + no + ", of a lost sheet", p -> p.write(0, no, 3), -2);
        }
    }

    private static void writeLowestBits() {
        S.of("26", "(of each the lowest bits that an item has, with its sign)");
        for (int form = 0; form < 3; form++) {
            QuarterMasks q = new QuarterMasks();
            q.fill(0, 8, 0, 8, 8, 1);
            Sentences.layAll(q, 0, form, -1, -1, -1, -1, -1);
            S.due("form " + form, q.write(0, 0, 0), 5);
            itemsAre(q, "form " + form, 0, form, 2, 0, 1, 0, 0);
        }
    }

    private static void writeAsMany() {
        QuarterMasks q = S.of("26", "from item 0 on, as many as there are items, and signs: how many.");
        q.fill(0, 8, 0, 8, 8, 1);
        Sentences.layAll(q, 0, 1, 7, 7, 7, 7, 7, 7, 7);
        S.due("fewer signs", q.write(0, 0, 0), 5);
        itemsAre(q, "items behind them stay", 0, 1, 2, 0, 1, 0, 0, 7, 7);
        S.due("the last sign", q.write(0, 4, 0), 1);
        itemsAre(q, "one came", 0, 1, 0, 0, 1, 0, 0, 7, 7);
        S.due("behind the last sign", q.write(0, 5, 0), 0);
        S.due("far behind it", q.write(0, 340, 0), 0);
        itemsAre(q, "none came", 0, 1, 0, 0, 1, 0, 0, 7, 7);
        Sentences.layAll(q, 1, 2, 7, 7, 7);
        S.due("fewer items", q.write(0, 0, 1), 3);
        itemsAre(q, "three came", 1, 2, 2, 0, 1);
        q.sheet(2, 0, 5);
        S.due("just as many", q.write(0, 0, 2), 5);
        itemsAre(q, "five came", 2, 0, 2, 0, 1, 0, 0);
        q.sheet(2, 0, 0);
        S.due("no items", q.write(0, 0, 2), 0);
        q.sheet(2, 0, 60);
        Sentences.chequer(q, 1);
        S.due("60 of 341", q.write(1, 0, 2), 60);
        S.due("60 from 281 on", q.write(1, 281, 2), 60);
        S.due("the last", q.get(2, 0, 59), 1);
        S.due("59 from 282 on", q.write(1, 282, 2), 59);
    }

    private static void writeRefused() {
        S.of("26", "BAD; NULL.");
        for (int no : NO_SHEET) {
            S.refused("mask " + no, q -> q.write(no, 0, 0), -2);
            S.refused("mask " + no + ", ahead of NULL", q -> q.write(no, 0, 3), -2);
            S.refused("sheet " + no, q -> q.write(0, 0, no), -2);
        }
        S.found("a lost sheet", q -> q.write(0, 0, 3), -11, 1);
        S.found("a lost sheet, behind the last sign", q -> q.write(0, 340, 3), -11, 1);
    }

    private static void countDark() {
        QuarterMasks q = S.of("27", "0 to 3 dark CELLS of MASKS 0 to 3,");
        for (int m = 0; m < 4; m++) S.due("light, " + m, q.count(m), 0);
        for (int m = 0; m < 4; m++) q.fill(m, 0, 0, 16, 1 + 5 * m, 1);
        for (int m = 0; m < 4; m++) S.due("dark, " + m, q.count(m), 16 + 80 * m);
    }

    private static void countBlocks() {
        QuarterMasks q = S.of("27", "4 BLOCKS of all,");
        S.due("light", q.count(4), 4);
        for (int m = 0; m < 4; m++) q.fill(m, 0, 0, 16, 16, 1);
        S.due("dark", q.count(4), 4);
        q.fill(2, 15, 15, 1, 1, 0);
        S.due("one less a cell", q.count(4), 16);
        Sentences.chequer(q, 0);
        for (int m = 1; m < 4; m++) q.join(0, 0, 0, m);
        S.due("the most", q.count(4), 1024);
    }

    private static void countParts() {
        QuarterMasks q = S.of("27", "5 PARTS of all,");
        S.due("light", q.count(5), 0);
        for (int m = 0; m < 4; m++) q.fill(m, 0, 0, 16, 16, 1);
        S.due("dark", q.count(5), 4);
        Sentences.chequer(q, 0);
        for (int m = 1; m < 4; m++) q.join(0, 0, 0, m);
        S.due("the most", q.count(5), 512);
        q.fill(3, 0, 0, 16, 16, 0);
        S.due("one light", q.count(5), 384);
    }

    private static void countChanges() {
        QuarterMasks q = S.of("27", "6 CHANGES that are known,");
        S.due("none", q.count(6), 0);
        for (int i = 1; i <= 42; i++) {
            q.fill(0, 0, 0, 1, 1, 1);
            S.due("after " + i, q.count(6), Math.min(i, 40));
        }
        q.back();
        S.due("one undone", q.count(6), 39);
        q.fill(0, 16, 0, 1, 1, 1);
        S.due("a refusal is none", q.count(6), 39);
    }

    private static void countDarkInAll() {
        QuarterMasks q = S.of("27", "7 CELLS dark in all four,");
        S.due("light", q.count(7), 0);
        for (int m = 0; m < 4; m++) {
            S.due("dark in " + m, q.count(7), 0);
            q.fill(m, 0, 0, 16, 16, 1);
        }
        S.due("dark in all", q.count(7), 256);
        for (int m = 0; m < 4; m++) {
            q.fill(m, 5 * m, 15, 1, 1, 0);
            S.due("but for a cell of " + m, q.count(7), 255 - m);
        }
    }

    private static void countFinding() {
        QuarterMasks q = S.of("27", "8 the number of the latest FINDING (0 before any).");
        S.due("before any", q.count(8), 0);
        q.fill(4, 0, 0, 1, 1, 1);
        S.due("BAD is none", q.count(8), 0);
        q.back();
        S.due("NOT is none", q.count(8), 0);
        q.lose(0);
        S.due("NULL", q.count(8), 1);
        q.sheet(0, 0, -1);
        S.due("SIZE", q.count(8), 5);
        q.sheet(0, 0, 1);
        S.due("the latest stays", q.count(8), 5);
        q.sheet(1, 1, 1);
        q.copy(0, 0, 1, 0, 1);
        S.due("STORE", q.count(8), 4);
        q.lay(0, 1, 0, 0);
        S.due("CAST", q.count(8), 3);
        q.lay(0, 0, 1, 0);
        S.due("INDEX", q.count(8), 2);
        q.read(0, 3);
        S.due("NULL again", q.count(8), 1);
    }

    private static void countBad() {
        S.of("27", "BAD");
        for (int no : new int[] {-1, 9, LEAST, MOST}) S.refused("what " + no, q -> q.count(no), -2);
    }

    /** What a digest is made of, in its order, by calls of the public face; an object for each mask, as calls are few. */
    private static List<Integer> told(Supplier<QuarterMasks> state) {
        List<Integer> told = new ArrayList<>();
        QuarterMasks counted = state.get();
        for (int what = 0; what <= 7; what++) told.add(counted.count(what));
        for (int m = 0; m < 4; m++) {
            QuarterMasks q = state.get();
            for (int what = 0; what <= 3; what++) told.add(q.blocks(m, what));
            for (int what = 0; what <= 3; what++) told.add(q.all(m, what));
            for (int i = -1; i <= 40; i++) told.add(q.shown(m, i));
            for (int y : new int[] {0, 3, 6, 9, 12, 15}) {
                for (int x : new int[] {0, 5, 10, 15}) {
                    told.add(q.cell(m, x, y));
                    told.add(q.block(m, x, y, 2));
                    told.add(q.label(m, x, y));
                    told.add(q.near(m, x, y));
                }
            }
            for (int it = 0; it <= 3; it++) for (int what = 0; what <= 5; what++) told.add(q.part(m, it, what));
            for (int it = 0; it <= 3; it++) for (int what = 0; what <= 3; what++) told.add(q.both(m, it, what));
        }
        return told;
    }

    /** By numbers that do not wrap; their lowest 64 bits with their sign are a long's. */
    private static long digestOf(List<Integer> told) {
        BigInteger h = BigInteger.valueOf(17);
        for (int t : told) h = h.multiply(BigInteger.valueOf(31)).add(BigInteger.valueOf(t));
        return h.longValue();
    }

    private static void digestIs(String what, Supplier<QuarterMasks> state) {
        S.due(what, state.get().digest(), digestOf(told(state)));
    }

    private static QuarterMasks fourMasksOfDots() {
        QuarterMasks q = new QuarterMasks();
        for (int m = 0; m < 4; m++) q.dots(m, 77 + m, 20 + 70 * m);
        return q;
    }

    private static void digestBegins() {
        S.of("28", "h is 17; h becomes 31 h and each of");
        S.due("how much is told", told(QuarterMasks::new).size(), 8 + 4 * 186);
        digestIs("of a new object", QuarterMasks::new);
        S.due("of a new object, as the shared tests have it", new QuarterMasks().digest(), 8530256629424359813L);
    }

    private static void digestOrder() {
        S.of("28", "(of each thing all that is told of it, then of the next one):");
        digestIs("of masks that are all unlike", SheetBoundaryTest::fourMasksOfDots);
        QuarterMasks q = fourMasksOfDots();
        long once = q.digest();
        S.due("it changes nothing", q.digest(), once);
        S.due("nor is it a change", q.count(6), 4);
    }

    private static void digestCounts() {
        S.of("28", "count() 0 to 7;");
        digestIs("of all counts unlike", () -> Sentences.busy(5));
        S.due("not of count(8)", Sentences.busy(5).digest(), Sentences.busy(1).digest());
        QuarterMasks q = Sentences.busy(5);
        long before = q.digest();
        q.sheet(0, 2, 60);
        q.lose(1);
        S.due("nor of sheets", q.digest(), before);
        q.back();
        q.fill(3, 9, 1, 1, 1, 0);
        S.due("of changes known, as many as before", q.digest(), before);
        q.fill(3, 9, 1, 1, 1, 0);
        S.due("of no more than 40", q.digest(), before);
        q.back();
        S.holds("of one fewer", q.digest() != before);
    }

    private static void digestSigns() {
        S.of("28", "of MASKS blocks() 0 to 3, all() 0 to 3, of -1 to 40 shown(),");
        digestIs("of one sign", () -> maskOfSigns(1));
        digestIs("of 37 signs", () -> maskOfSigns(37));
        digestIs("of 41 signs", () -> maskOfSigns(41));
        digestIs("of 45 signs", () -> maskOfSigns(45));
        S.due("41 signs", maskOfSigns(41).shown(2, -1), 41);
        S.due("45 signs", maskOfSigns(45).shown(2, -1), 45);
        digestIs("of the most signs", () -> {
            QuarterMasks q = new QuarterMasks();
            Sentences.chequer(q, 1);
            return q;
        });
    }

    /** The first cell makes 17 signs, each more in its square of four by four four more, the first in the next one eight. */
    private static QuarterMasks maskOfSigns(int signs) {
        QuarterMasks q = new QuarterMasks();
        int[][] cells = {{0, 0}, {2, 0}, {0, 2}, {2, 2}, {4, 0}, {6, 0}, {4, 2}, {6, 2}};
        for (int[] c : cells) if (q.shown(2, -1) < signs) q.fill(2, c[0], c[1], 1, 1, 1);
        return q;
    }

    private static void digestCells() {
        S.of("28",
            "of y 0, 3, 6, 9, 12, 15 and x 0, 5, 10, 15 cell(the MASK, x, y), block(the MASK, x, y, 2), "
            + "label(the MASK, x, y), near(the MASK, x, y),");
        digestIs("light but for a corner", () -> cellsOf(1, 15, 15));
        digestIs("dark but for a corner", () -> cellsOf(0, 15, 15));
        digestIs("a cell that it names", () -> cellsOf(1, 10, 9));
        digestIs("a cell that it does not name", () -> cellsOf(1, 9, 10));
    }

    private static QuarterMasks cellsOf(int v, int x, int y) {
        QuarterMasks q = new QuarterMasks();
        q.fill(1, 0, 0, 16, 16, 1 - v);
        q.fill(1, x, y, 1, 1, v);
        return q;
    }

    private static void digestParts() {
        S.of("28", "of 0 to 3 part(the MASK, it, 0 to 5),");
        for (int parts = 0; parts <= 6; parts++) {
            int n = parts;
            digestIs("of " + n + " parts", () -> {
                QuarterMasks q = new QuarterMasks();
                for (int p = 0; p < n; p++) q.fill(3, 2 * p, p, 1, 3, 1);
                return q;
            });
        }
    }

    private static void digestPairs() {
        S.of("28", "of MASKS both(the MASK, it, 0 to 3);");
        digestIs("of masks in one another", () -> {
            QuarterMasks q = new QuarterMasks();
            for (int m = 0; m < 4; m++) q.fill(m, 8 - 2 * m, 8 - 2 * m, 2 + m, 1 + m, 1);
            return q;
        });
    }

    private static void digestWraps() {
        S.of("28", "as longs that wrap.");
        boolean below = false;
        boolean above = false;
        for (int seed = 0; seed < 12; seed++) {
            int from = seed;
            Supplier<QuarterMasks> state = () -> {
                QuarterMasks q = new QuarterMasks();
                for (int m = 0; m < 4; m++) q.dots(m, 999 * from + m, 31 * (m + from) % 200);
                return q;
            };
            digestIs("of dots " + seed, state);
            below |= state.get().digest() < 0;
            above |= state.get().digest() > 0;
        }
        S.holds("some are below 0, some above", below && above);
    }
}
