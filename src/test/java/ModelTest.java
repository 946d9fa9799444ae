import java.util.Random;

/** Runs of calls by chance (the same ones each time), on QuarterMasks and on PlainMasks: the answers must be alike. */
final class ModelTest {
    private static final int RUNS = 400;
    /** An object is used for 512 calls at most, and a step takes up to 62 of them. */
    private static final int CALLS = 512 - 62 - 1;
    private static final int[] ODD = {-1, -2, -3, -17, 16, 17, 31, 60, 61, 256, 341,
        Integer.MIN_VALUE, Integer.MAX_VALUE, Integer.MIN_VALUE + 1, 65536, -65536};

    private final Random chance;
    private final Check check;
    private final int oddEach;
    private QuarterMasks real = new QuarterMasks();
    private PlainMasks plain = new PlainMasks();
    private int calls = 0;

    private ModelTest(int run, Check check) {
        this.chance = new Random(run);
        this.check = check;
        this.oddEach = run % 4 == 0 ? 12 : run % 4 == 1 ? 40 : 300;
    }

    public static void main(String[] args) {
        Check check = new Check();
        for (int run = 0; run < RUNS && !check.hasWrong(); run++) {
            ModelTest test = new ModelTest(run, check);
            while (test.calls < CALLS && !check.hasWrong()) {
                test.callSomething("run " + run + ", call " + test.calls + ": ");
            }
            check.due("run " + run + ": digest()", test.real.digest(), test.plain.digest());
        }
        check.end("ModelTest");
    }

    /** A number from least to most; now and then one that is none of these. */
    private int some(int least, int most) {
        if (chance.nextInt(oddEach) == 0) {
            return chance.nextBoolean() ? ODD[chance.nextInt(ODD.length)] : chance.nextBoolean() ? least - 1 : most + 1;
        }
        return least + chance.nextInt(most - least + 1);
    }

    private int mask() {
        return some(0, 3);
    }

    private int at() {
        return some(0, 15);
    }

    private void due(String call, int[] args, long got, long want) {
        calls++;
        if (got != want) {
            check.due(call + java.util.Arrays.toString(args), got, want);
        } else {
            check.due(call, got, want);
        }
    }

    private void callSomething(String where) {
        int kind = chance.nextInt(30);
        if (kind < 10) {
            becomeSomething(where, kind);
        } else if (kind < 20) {
            askSomething(where, kind);
        } else {
            useSheets(where, kind);
        }
    }

    private void becomeSomething(String where, int kind) {
        int[] a = new int[6];
        switch (kind) {
            case 0 -> {
                a = new int[] {mask(), at(), at(), some(0, 16), some(0, 16), some(0, 1)};
                due(where + "fill", a, real.fill(a[0], a[1], a[2], a[3], a[4], a[5]),
                    plain.fill(a[0], a[1], a[2], a[3], a[4], a[5]));
            }
            case 1 -> {
                a = new int[] {mask(), chance.nextInt(), chance.nextBoolean() ? some(0, 255) : some(0, 12)};
                due(where + "dots", a, real.dots(a[0], a[1], a[2]), plain.dots(a[0], a[1], a[2]));
            }
            case 2 -> {
                a = new int[] {some(0, 3), mask(), mask(), mask()};
                due(where + "join", a, real.join(a[0], a[1], a[2], a[3]), plain.join(a[0], a[1], a[2], a[3]));
            }
            case 3 -> {
                a = new int[] {mask(), mask()};
                due(where + "over", a, real.over(a[0], a[1]), plain.over(a[0], a[1]));
            }
            case 4 -> {
                int most = chance.nextBoolean() ? 16 : 3;
                a = new int[] {mask(), some(-most, most), some(-most, most), mask()};
                due(where + "move", a, real.move(a[0], a[1], a[2], a[3]), plain.move(a[0], a[1], a[2], a[3]));
            }
            case 5 -> {
                a = new int[] {mask(), some(0, 3), mask()};
                due(where + "turn", a, real.turn(a[0], a[1], a[2]), plain.turn(a[0], a[1], a[2]));
            }
            case 6 -> {
                a = new int[] {mask(), chance.nextInt(3) == 0 ? some(0, 30) : some(0, 2), mask()};
                due(where + "band", a, real.band(a[0], a[1], a[2]), plain.band(a[0], a[1], a[2]));
            }
            case 7 -> {
                a = new int[] {mask(), at(), at(), mask()};
                due(where + "pick", a, real.pick(a[0], a[1], a[2], a[3]), plain.pick(a[0], a[1], a[2], a[3]));
            }
            case 8 -> {
                a = new int[] {mask(), some(0, 3)};
                due(where + "read", a, real.read(a[0], a[1]), plain.read(a[0], a[1]));
            }
            default -> due(where + "back", a, real.back(), plain.back());
        }
    }

    private void askSomething(String where, int kind) {
        int[] a = new int[0];
        switch (kind) {
            case 10 -> {
                a = new int[] {mask(), at(), at()};
                due(where + "cell", a, real.cell(a[0], a[1], a[2]), plain.cell(a[0], a[1], a[2]));
            }
            case 11 -> {
                a = new int[] {mask(), at(), at(), some(0, 2)};
                due(where + "block", a, real.block(a[0], a[1], a[2], a[3]), plain.block(a[0], a[1], a[2], a[3]));
            }
            case 12 -> {
                a = new int[] {mask(), some(0, 3)};
                due(where + "blocks", a, real.blocks(a[0], a[1]), plain.blocks(a[0], a[1]));
            }
            case 13 -> {
                a = new int[] {mask(), chance.nextBoolean() ? some(-1, 340) : some(-1, 20)};
                due(where + "shown", a, real.shown(a[0], a[1]), plain.shown(a[0], a[1]));
            }
            case 14 -> {
                a = new int[] {mask(), some(0, 3)};
                due(where + "all", a, real.all(a[0], a[1]), plain.all(a[0], a[1]));
            }
            case 15 -> {
                a = new int[] {mask(), at(), at()};
                due(where + "label", a, real.label(a[0], a[1], a[2]), plain.label(a[0], a[1], a[2]));
            }
            case 16 -> {
                a = new int[] {mask(), some(0, chance.nextBoolean() ? 2 : 30), some(0, 5)};
                due(where + "part", a, real.part(a[0], a[1], a[2]), plain.part(a[0], a[1], a[2]));
            }
            case 17 -> {
                a = new int[] {mask(), at(), at()};
                due(where + "near", a, real.near(a[0], a[1], a[2]), plain.near(a[0], a[1], a[2]));
            }
            case 18 -> {
                a = new int[] {mask(), mask(), some(0, 3)};
                due(where + "both", a, real.both(a[0], a[1], a[2]), plain.both(a[0], a[1], a[2]));
            }
            default -> {
                a = new int[] {some(0, 8)};
                due(where + "count", a, real.count(a[0]), plain.count(a[0]));
                if (chance.nextInt(8) == 0) {
                    due(where + "digest", new int[0], real.digest(), plain.digest());
                }
            }
        }
    }

    private void useSheets(String where, int kind) {
        int[] a;
        switch (kind) {
            case 20, 21 -> {
                a = new int[] {some(0, 3), some(0, 2), some(0, 60)};
                due(where + "sheet", a, real.sheet(a[0], a[1], a[2]), plain.sheet(a[0], a[1], a[2]));
            }
            case 22 -> {
                a = new int[] {some(0, 3)};
                due(where + "lose", a, real.lose(a[0]), plain.lose(a[0]));
            }
            case 23, 24, 25 -> {
                int v = chance.nextInt(4) == 0 ? chance.nextInt() : some(0, 2);
                a = new int[] {some(0, 3), some(0, 2), chance.nextBoolean() ? some(0, 3) : some(0, 59), v};
                due(where + "lay", a, real.lay(a[0], a[1], a[2], a[3]), plain.lay(a[0], a[1], a[2], a[3]));
            }
            case 26 -> {
                a = new int[] {some(0, 3), some(0, 2), some(0, 59)};
                due(where + "get", a, real.get(a[0], a[1], a[2]), plain.get(a[0], a[1], a[2]));
            }
            case 27 -> {
                a = new int[] {some(0, 3), some(0, 30), some(0, 3), some(0, 30), some(0, 30)};
                due(where + "copy", a, real.copy(a[0], a[1], a[2], a[3], a[4]),
                    plain.copy(a[0], a[1], a[2], a[3], a[4]));
            }
            case 28 -> {
                a = new int[] {mask(), chance.nextBoolean() ? 0 : some(0, 340), some(0, 3)};
                due(where + "write", a, real.write(a[0], a[1], a[2]), plain.write(a[0], a[1], a[2]));
            }
            default -> {
                layShownMask(where);
            }
        }
    }

    /** Items that nearly always tell a whole mask, some with like quarters, on a sheet of any form. */
    private void layShownMask(String where) {
        int s = chance.nextInt(4);
        int form = chance.nextInt(3);
        int n = chance.nextInt(61);
        due(where + "sheet", new int[] {s, form, n}, real.sheet(s, form, n), plain.sheet(s, form, n));
        for (int i = 0; i < n; i++) {
            int v = i == 0 ? 2 : chance.nextInt(8) < 2 ? 2 : chance.nextInt(40) == 0 ? 258 : chance.nextInt(2);
            due(where + "lay", new int[] {s, form, i, v}, real.lay(s, form, i, v), plain.lay(s, form, i, v));
        }
        int mask = chance.nextInt(4);
        due(where + "read", new int[] {mask, s}, real.read(mask, s), plain.read(mask, s));
    }
}
