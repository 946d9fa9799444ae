import java.util.ArrayDeque;
import java.util.ArrayList;
import java.util.Arrays;
import java.util.List;

/**
 * The document once more, cell by cell and with the Java library, to be compared with QuarterMasks.
 * It shares no way of working with it: truth values for cells, new objects at every call, real rows as sheets.
 */
final class PlainMasks {
    private record Change(int mask, boolean[][] before) { }

    private boolean[][][] masks = new boolean[4][16][16];
    private final ArrayDeque<Change> changes = new ArrayDeque<>();
    private final Object[] sheets = new Object[4];
    private int finding = 0;

    private static boolean bad(int n, int least, int most) {
        return n < least || n > most;
    }

    private static boolean badMask(int mask) {
        return bad(mask, 0, 3);
    }

    private static boolean badCell(int x, int y) {
        return bad(x, 0, 15) || bad(y, 0, 15);
    }

    private static boolean dark(boolean[][] m, int x, int y) {
        return !badCell(x, y) && m[y][x];
    }

    private static boolean[][] twin(boolean[][] m) {
        boolean[][] t = new boolean[16][];
        for (int y = 0; y < 16; y++) t[y] = m[y].clone();
        return t;
    }

    private static int darks(boolean[][] m) {
        int n = 0;
        for (boolean[] row : m) for (boolean c : row) if (c) n++;
        return n;
    }

    private int become(int mask, boolean[][] m) {
        changes.addLast(new Change(mask, masks[mask]));
        if (changes.size() > 40) changes.removeFirst();
        masks[mask] = m;
        return darks(m);
    }

    private int found(int n) {
        finding = n;
        return -10 - n;
    }

    int fill(int mask, int x, int y, int w, int h, int v) {
        if (badMask(mask) || badCell(x, y) || bad(w, 0, 16) || bad(h, 0, 16) || bad(v, 0, 1)) return -2;
        boolean[][] m = twin(masks[mask]);
        for (int i = x; i < x + w; i++) for (int j = y; j < y + h; j++) if (!badCell(i, j)) m[j][i] = v == 1;
        return become(mask, m);
    }

    int dots(int mask, int seed, int n) {
        if (badMask(mask) || bad(n, 0, 255)) return -2;
        boolean[][] m = twin(masks[mask]);
        long s = seed;
        for (int i = 0; i < n; i++) {
            s = (1103515245L * s + 12345L) & 0xFFFFFFFFL;
            int c = (int) ((s >> 16) % 256);
            m[c / 16][c % 16] = !m[c / 16][c % 16];
        }
        return become(mask, m);
    }

    int join(int kind, int a, int b, int to) {
        if (bad(kind, 0, 3) || badMask(a) || badMask(b) || badMask(to)) return -2;
        boolean[][] m = new boolean[16][16];
        for (int y = 0; y < 16; y++) {
            for (int x = 0; x < 16; x++) {
                boolean p = masks[a][y][x];
                boolean q = masks[b][y][x];
                m[y][x] = kind == 0 ? p || q : kind == 1 ? p && q : kind == 2 ? p && !q : p != q;
            }
        }
        return become(to, m);
    }

    int over(int a, int to) {
        if (badMask(a) || badMask(to)) return -2;
        boolean[][] m = new boolean[16][16];
        for (int y = 0; y < 16; y++) for (int x = 0; x < 16; x++) m[y][x] = !masks[a][y][x];
        return become(to, m);
    }

    int move(int a, int dx, int dy, int to) {
        if (badMask(a) || bad(dx, -16, 16) || bad(dy, -16, 16) || badMask(to)) return -2;
        boolean[][] m = new boolean[16][16];
        for (int y = 0; y < 16; y++) for (int x = 0; x < 16; x++) m[y][x] = dark(masks[a], x - dx, y - dy);
        return become(to, m);
    }

    int turn(int a, int times, int to) {
        if (badMask(a) || bad(times, 0, 3) || badMask(to)) return -2;
        boolean[][] m = new boolean[16][16];
        for (int y = 0; y < 16; y++) {
            for (int x = 0; x < 16; x++) {
                int p = times == 0 ? x : times == 1 ? 15 - y : times == 2 ? 15 - x : y;
                int q = times == 0 ? y : times == 1 ? x : times == 2 ? 15 - y : 15 - x;
                m[q][p] = masks[a][y][x];
            }
        }
        return become(to, m);
    }

    int band(int a, int d, int to) {
        if (badMask(a) || bad(d, 0, 30) || badMask(to)) return -2;
        boolean[][] m = new boolean[16][16];
        for (int y = 0; y < 16; y++) {
            for (int x = 0; x < 16; x++) {
                int far = near(a, x, y);
                m[y][x] = far >= 0 && far <= d;
            }
        }
        return become(to, m);
    }

    int pick(int a, int x, int y, int to) {
        if (badMask(a) || badCell(x, y) || badMask(to)) return -2;
        if (!masks[a][y][x]) return -3;
        boolean[][] m = new boolean[16][16];
        for (int c : partWith(masks[a], x, y, true)) m[c / 16][c % 16] = true;
        return become(to, m);
    }

    int read(int mask, int s) {
        if (badMask(mask) || bad(s, 0, 3)) return -2;
        if (sheets[s] == null) return found(1);
        List<Integer> items = new ArrayList<>();
        for (int i = 0; i < length(s); i++) items.add(at(s, i));
        boolean[][] m = new boolean[16][16];
        if (!readInto(m, items, 0, 0, 16)) return -3;
        become(mask, m);
        return length(s) - items.size();
    }

    private static boolean readInto(boolean[][] m, List<Integer> left, int x, int y, int side) {
        if (left.isEmpty()) return false;
        int sign = left.remove(0);
        if (sign == 2) {
            int half = side / 2;
            return side != 1
                && readInto(m, left, x, y, half)
                && readInto(m, left, x + half, y, half)
                && readInto(m, left, x, y + half, half)
                && readInto(m, left, x + half, y + half, half);
        }
        if (sign != 0 && sign != 1) return false;
        for (int j = y; j < y + side; j++) Arrays.fill(m[j], x, x + side, sign == 1);
        return true;
    }

    int back() {
        if (changes.isEmpty()) return -3;
        Change last = changes.removeLast();
        masks[last.mask()] = last.before();
        return changes.size();
    }

    int cell(int mask, int x, int y) {
        if (badMask(mask) || badCell(x, y)) return -2;
        return masks[mask][y][x] ? 1 : 0;
    }

    /** Rows of x, y, side, 0 light, 1 dark or 2 mixed, how many mixed ones are around it; in the order of the signs. */
    private static List<int[]> squares(boolean[][] m, int x, int y, int side, int around) {
        int n = 0;
        for (int j = y; j < y + side; j++) for (int i = x; i < x + side; i++) if (m[j][i]) n++;
        List<int[]> list = new ArrayList<>();
        boolean mixed = n != 0 && n != side * side;
        list.add(new int[] {x, y, side, mixed ? 2 : n == 0 ? 0 : 1, around});
        if (mixed) {
            int half = side / 2;
            list.addAll(squares(m, x, y, half, around + 1));
            list.addAll(squares(m, x + half, y, half, around + 1));
            list.addAll(squares(m, x, y + half, half, around + 1));
            list.addAll(squares(m, x + half, y + half, half, around + 1));
        }
        return list;
    }

    int block(int mask, int x, int y, int what) {
        if (badMask(mask) || badCell(x, y) || bad(what, 0, 2)) return -2;
        for (int[] q : squares(masks[mask], 0, 0, 16, 0)) {
            boolean inside = x >= q[0] && x < q[0] + q[2] && y >= q[1] && y < q[1] + q[2];
            if (q[3] != 2 && inside) return q[what];
        }
        throw new IllegalStateException("each cell is in a block");
    }

    int blocks(int mask, int what) {
        if (badMask(mask) || bad(what, 0, 3)) return -2;
        int all = 0;
        int dark = 0;
        int mixed = 0;
        int deepest = 0;
        for (int[] q : squares(masks[mask], 0, 0, 16, 0)) {
            if (q[3] != 2) all++;
            if (q[3] == 1) dark++;
            if (q[3] == 2) {
                mixed++;
                deepest = Math.max(deepest, q[4] + 1);
            }
        }
        return new int[] {all, dark, mixed, deepest}[what];
    }

    int shown(int mask, int i) {
        if (badMask(mask) || bad(i, -1, 340)) return -2;
        List<int[]> signs = squares(masks[mask], 0, 0, 16, 0);
        return i == -1 ? signs.size() : i < signs.size() ? signs.get(i)[3] : -1;
    }

    /** The cells that hang together with one, by y, of like ones by x. */
    private static int[] partWith(boolean[][] m, int x, int y, boolean like) {
        boolean[][] in = new boolean[16][16];
        in[y][x] = true;
        boolean grown = true;
        while (grown) {
            grown = false;
            for (int c = 0; c < 256; c++) {
                int i = c % 16;
                int j = c / 16;
                boolean beside = dark(in, i - 1, j) || dark(in, i + 1, j) || dark(in, i, j - 1) || dark(in, i, j + 1);
                if (m[j][i] == like && !in[j][i] && beside) {
                    in[j][i] = true;
                    grown = true;
                }
            }
        }
        List<Integer> cells = new ArrayList<>();
        for (int c = 0; c < 256; c++) if (in[c / 16][c % 16]) cells.add(c);
        return cells.stream().mapToInt(Integer::intValue).toArray();
    }

    private static List<int[]> parts(boolean[][] m, boolean like) {
        List<int[]> parts = new ArrayList<>();
        boolean[] taken = new boolean[256];
        for (int c = 0; c < 256; c++) {
            if (m[c / 16][c % 16] != like || taken[c]) continue;
            int[] part = partWith(m, c % 16, c / 16, like);
            for (int d : part) taken[d] = true;
            parts.add(part);
        }
        return parts;
    }

    private static int border(boolean[][] m, int[] part) {
        int n = 0;
        for (int c : part) {
            int x = c % 16;
            int y = c / 16;
            if (!dark(m, x - 1, y)) n++;
            if (!dark(m, x + 1, y)) n++;
            if (!dark(m, x, y - 1)) n++;
            if (!dark(m, x, y + 1)) n++;
        }
        return n;
    }

    int all(int mask, int what) {
        if (badMask(mask) || bad(what, 0, 3)) return -2;
        boolean[][] m = masks[mask];
        if (what == 0) return parts(m, true).size();
        if (what == 1) return parts(m, true).stream().mapToInt(p -> border(m, p)).sum();
        if (what == 3) return darks(m);
        return (int) parts(m, false).stream()
            .filter(p -> Arrays.stream(p).noneMatch(c -> c % 16 == 0 || c % 16 == 15 || c / 16 == 0 || c / 16 == 15))
            .count();
    }

    int label(int mask, int x, int y) {
        if (badMask(mask) || badCell(x, y)) return -2;
        List<int[]> parts = parts(masks[mask], true);
        for (int p = 0; p < parts.size(); p++) for (int c : parts.get(p)) if (c == 16 * y + x) return p;
        return -1;
    }

    int part(int mask, int part, int what) {
        if (badMask(mask) || bad(what, 0, 5)) return -2;
        List<int[]> parts = parts(masks[mask], true);
        if (bad(part, 0, parts.size() - 1)) return -2;
        int[] p = parts.get(part);
        if (what == 0) return p.length;
        if (what == 1) return border(masks[mask], p);
        if (what == 2) return Arrays.stream(p).map(c -> c % 16).min().getAsInt();
        if (what == 3) return Arrays.stream(p).map(c -> c / 16).min().getAsInt();
        if (what == 4) return Arrays.stream(p).map(c -> c % 16).max().getAsInt();
        return Arrays.stream(p).map(c -> c / 16).max().getAsInt();
    }

    int near(int mask, int x, int y) {
        if (badMask(mask) || badCell(x, y)) return -2;
        int least = -1;
        for (int c = 0; c < 256; c++) {
            int far = Math.abs(c % 16 - x) + Math.abs(c / 16 - y);
            if (masks[mask][c / 16][c % 16] && (least == -1 || far < least)) least = far;
        }
        return least;
    }

    int both(int a, int b, int what) {
        if (badMask(a) || badMask(b) || bad(what, 0, 3)) return -2;
        boolean alike = true;
        boolean inside = true;
        boolean beside = false;
        int shared = 0;
        for (int y = 0; y < 16; y++) {
            for (int x = 0; x < 16; x++) {
                boolean p = masks[a][y][x];
                boolean[][] q = masks[b];
                alike &= p == q[y][x];
                inside &= !p || q[y][x];
                beside |= p && (dark(q, x - 1, y) || dark(q, x + 1, y) || dark(q, x, y - 1) || dark(q, x, y + 1));
                if (p && q[y][x]) shared++;
            }
        }
        return what == 2 ? shared : (what == 0 ? alike : what == 1 ? inside : beside) ? 1 : 0;
    }

    private int form(int s) {
        return sheets[s] instanceof byte[] ? 0 : sheets[s] instanceof short[] ? 1 : 2;
    }

    private int length(int s) {
        return java.lang.reflect.Array.getLength(sheets[s]);
    }

    private int at(int s, int i) {
        return java.lang.reflect.Array.getInt(sheets[s], i);
    }

    private void put(int s, int i, int v) {
        if (sheets[s] instanceof byte[] b) b[i] = (byte) v;
        if (sheets[s] instanceof short[] h) h[i] = (short) v;
        if (sheets[s] instanceof int[] n) n[i] = v;
    }

    int sheet(int s, int form, int n) {
        if (bad(s, 0, 3) || bad(form, 0, 2) || n > 60) return -2;
        if (n < 0) return found(5);
        sheets[s] = form == 0 ? new byte[n] : form == 1 ? new short[n] : new int[n];
        return n;
    }

    int lose(int s) {
        if (bad(s, 0, 3)) return -2;
        if (sheets[s] == null) return found(1);
        int n = length(s);
        sheets[s] = null;
        return n;
    }

    int lay(int s, int form, int i, int v) {
        if (bad(s, 0, 3) || bad(form, 0, 2)) return -2;
        if (sheets[s] == null) return found(1);
        if (form(s) != form) return found(3);
        if (bad(i, 0, length(s) - 1)) return found(2);
        put(s, i, v);
        return 1;
    }

    int get(int s, int form, int i) {
        int least = Integer.MIN_VALUE;
        if (bad(s, 0, 3) || bad(form, 0, 2)) return least;
        int wrong = sheets[s] == null ? 1 : form(s) != form ? 3 : bad(i, 0, length(s) - 1) ? 2 : 0;
        if (wrong == 0) return at(s, i);
        finding = wrong;
        return least;
    }

    int copy(int s, int i, int t, int j, int n) {
        if (bad(s, 0, 3) || bad(t, 0, 3)) return -2;
        if (sheets[s] == null || sheets[t] == null) return found(1);
        if (form(s) != form(t)) return found(4);
        long last = length(s) - (long) n;
        long end = length(t) - (long) n;
        if (i < 0 || j < 0 || n < 0 || i > last || j > end) return found(2);
        int[] items = new int[n];
        for (int k = 0; k < n; k++) items[k] = at(s, i + k);
        for (int k = 0; k < n; k++) put(t, j + k, items[k]);
        return 1;
    }

    int write(int mask, int i, int s) {
        if (badMask(mask) || bad(i, 0, 340) || bad(s, 0, 3)) return -2;
        if (sheets[s] == null) return found(1);
        int n = 0;
        while (n < length(s) && i + n < shown(mask, -1)) {
            put(s, n, shown(mask, i + n));
            n++;
        }
        return n;
    }

    int count(int what) {
        if (bad(what, 0, 8)) return -2;
        if (what <= 3) return darks(masks[what]);
        if (what == 6) return changes.size();
        if (what == 8) return finding;
        int sum = 0;
        if (what == 7) {
            for (int c = 0; c < 256; c++) if (darkInAll(c % 16, c / 16)) sum++;
            return sum;
        }
        for (int mask = 0; mask < 4; mask++) sum += what == 4 ? blocks(mask, 0) : all(mask, 0);
        return sum;
    }

    private boolean darkInAll(int x, int y) {
        return masks[0][y][x] && masks[1][y][x] && masks[2][y][x] && masks[3][y][x];
    }

    long digest() {
        List<Integer> told = new ArrayList<>();
        for (int what = 0; what <= 7; what++) told.add(count(what));
        for (int m = 0; m < 4; m++) {
            for (int what = 0; what <= 3; what++) told.add(blocks(m, what));
            for (int what = 0; what <= 3; what++) told.add(all(m, what));
            for (int i = -1; i <= 40; i++) told.add(shown(m, i));
            for (int y : new int[] {0, 3, 6, 9, 12, 15}) {
                for (int x : new int[] {0, 5, 10, 15}) {
                    told.addAll(List.of(cell(m, x, y), block(m, x, y, 2), label(m, x, y), near(m, x, y)));
                }
            }
            for (int p = 0; p <= 3; p++) for (int what = 0; what <= 5; what++) told.add(part(m, p, what));
            for (int b = 0; b <= 3; b++) for (int what = 0; what <= 3; what++) told.add(both(m, b, what));
        }
        long h = 17;
        for (int t : told) h = 31 * h + t;
        return h;
    }
}
