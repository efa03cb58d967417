import java.util.Random;

/** Long runs of calls, the same each time, against a model that follows the document's words one by one. */
public final class SphereBenchAgainstModel {
    private static final int RUNS = 400;
    private static final int[] ODD = {Integer.MIN_VALUE, Integer.MIN_VALUE + 1, -1000001, -6001, -6000, -1000, -999,
        -2, -1, 0, 1, 2, 3, 4, 5, 19, 20, 21, 60, 61, 999, 1000, 6000, 6001, 1000000, 1000001,
        Integer.MAX_VALUE - 1, Integer.MAX_VALUE};

    /** What a step of a run takes at the most: a sheet of four lines, all its numbers, and take(). */
    private static final int MOST_AT_ONCE = 18;
    private static final int MOST_FAULTS = 20;

    private static final int[] SPENT_SEEN = new int[5];

    public static void main(String[] args) {
        int runs = args.length > 0 ? Integer.parseInt(args[0]) : RUNS;
        long seed = args.length > 1 ? Long.parseLong(args[1]) : 1;
        for (int run = 0; run < runs && Checks.faults() < MOST_FAULTS; run++) {
            Random dice = new Random(seed * 1000003 + run);
            Checks.test("run " + run, () -> oneRun(dice));
        }
        System.out.println("-2 seen: rows " + SPENT_SEEN[0] + ", about " + SPENT_SEEN[1] + ", same " + SPENT_SEEN[2]
            + ", denser " + SPENT_SEEN[3] + ", nearest " + SPENT_SEEN[4]);
        Checks.end();
    }

    private static void oneRun(Random dice) {
        Bench x = new Bench();
        Model m = new Model();
        while (x.left() >= MOST_AT_ONCE && Checks.faults() < MOST_FAULTS) {
            int what = dice.nextInt(30);
            if (what < 6) {
                writeTable(x, m, dice);
            } else {
                oneCall(what, x, m, dice);
            }
            readSome(x, m, dice, Math.min(x.left(), dice.nextInt(3)));
        }
        readSome(x, m, dice, x.left());
    }

    /** Any of what can be read, mostly inside of it. */
    private static void readSome(Bench x, Model m, Random dice, int calls) {
        for (int call = 0; call < calls; call++) {
            int i = dice.nextInt(6) - 1;
            int k = dice.nextInt(6) - 1;
            int a = dice.nextInt(m.tables.size() + 2) - 1;
            int r = dice.nextInt(5) == 0 ? m.list.size() - 2 + i : dice.nextInt(m.list.size() + 2) - 1;
            switch (dice.nextInt(12)) {
                case 0:
                    Checks.due("told(" + i + ")", x.told(i), m.told(i));
                    break;
                case 1: case 2:
                    Checks.due("cellOf(" + i + ", " + k + ")", x.cellOf(i, k), m.cellOf(i, k));
                    break;
                case 3: case 4:
                    Checks.due("way(" + i + ", " + k + ")", x.way(i, k), m.way(i, k));
                    break;
                case 5:
                    Checks.due("size(" + r + ")", x.size(r), m.size(r));
                    break;
                case 6:
                    Checks.due("wayWorth()", x.wayWorth(), m.wayWorth());
                    break;
                case 7:
                    Checks.due("index()", x.index(), m.index());
                    break;
                case 8: case 9:
                    Checks.due("table(" + a + ", " + i + ", " + k + ")", x.table(a, i, k), m.table(a, i, k));
                    break;
                default:
                    Checks.due("row(" + r + ", " + k + ")", x.row(r, k), m.row(r, k));
                    break;
            }
        }
    }

    private static void writeTable(Bench x, Model m, Random dice) {
        int n = 1 + dice.nextInt(4);
        int[][] table = dice.nextInt(12) == 0 ? anyNumbers(dice, n) : someTable(dice, n);
        Checks.due("sheet(" + n + ")", x.sheet(n), m.sheet(n));
        for (int i = 0; i < n; i++) {
            for (int k = 0; k < n; k++) {
                int v = table[i][k];
                Checks.due("cell(" + i + ", " + k + ", " + v + ")", x.cell(i, k, v), m.cell(i, k, v));
            }
        }
        if (dice.nextInt(5) > 0) {
            Checks.due("take()", x.take(), m.take());
        }
    }

    private static int[][] anyNumbers(Random dice, int n) {
        int most = new int[] {1, 3, 30, 999}[dice.nextInt(4)];
        int[][] t = new int[n][n];
        for (int i = 0; i < n; i++) {
            for (int k = 0; k < n; k++) {
                t[i][k] = dice.nextInt(2 * most + 1) - most;
            }
        }
        return t;
    }

    /** A well known table, or one made of random lines, at times bent by whole turns; mostly above 0. */
    private static int[][] someTable(Random dice, int n) {
        long[][] t = new long[n][n];
        int kind = dice.nextInt(6);
        for (int i = 0; i < n; i++) {
            t[i][i] = kind == 0 ? 1 : kind == 1 ? 2 : 1 + dice.nextInt(kind == 2 ? 5 : kind == 3 ? 60 : 999);
            for (int k = 0; k < i; k++) {
                long most = Math.min(t[i][i], t[k][k]);
                t[i][k] = kind == 0 ? 0 : kind == 1 ? (k == i - 1 || n == 4 && i == 3 && k == 1 && dice.nextBoolean()
                    ? -1 : 0) : dice.nextInt((int) most + 1) - most / 2;
                t[k][i] = t[i][k];
            }
        }
        int bends = dice.nextInt(3) == 0 ? 0 : dice.nextInt(7);
        for (int bend = 0; bend < bends && n > 1; bend++) {
            int i = dice.nextInt(n);
            int k = (i + 1 + dice.nextInt(n - 1)) % n;
            int by = dice.nextInt(7) - 3;
            long[][] bent = new long[n][n];
            for (int r = 0; r < n; r++) {
                bent[r] = t[r].clone();
            }
            for (int c = 0; c < n; c++) {
                bent[i][c] += by * bent[k][c];
            }
            for (int r = 0; r < n; r++) {
                bent[r][i] += by * bent[r][k];
            }
            boolean fits = true;
            for (long[] line : bent) {
                for (long v : line) {
                    fits &= v >= -999 && v <= 999;
                }
            }
            t = fits ? bent : t;
        }
        int[][] out = new int[n][n];
        for (int i = 0; i < n; i++) {
            for (int k = 0; k < n; k++) {
                out[i][k] = (int) t[i][k];
            }
        }
        return out;
    }

    private static int pick(Random dice, int below) {
        return dice.nextInt(12) == 0 ? ODD[dice.nextInt(ODD.length)] : dice.nextInt(Math.max(1, below));
    }

    private static int pickSize(Random dice) {
        switch (dice.nextInt(4)) {
            case 0:
                return ODD[dice.nextInt(ODD.length)];
            case 1:
                return 1 + dice.nextInt(20);
            case 2:
                return 1 + dice.nextInt(2000);
            default:
                return 1 + dice.nextInt(1000000);
        }
    }

    private static int pickPlace(Random dice) {
        return dice.nextInt(15) == 0 ? ODD[dice.nextInt(ODD.length)] : dice.nextInt(12001) - 6000;
    }

    private static void oneCall(int what, Bench x, Model m, Random dice) {
        int a = pick(dice, m.tables.size());
        int b = pick(dice, m.tables.size());
        switch (what) {
            case 6: case 7: case 8: case 9: {
                int fact = dice.nextInt(10) == 0 ? ODD[dice.nextInt(ODD.length)] : dice.nextInt(7);
                long want = m.about(a, fact);
                SPENT_SEEN[1] += want == -2 ? 1 : 0;
                Checks.due("about(" + a + ", " + fact + ")", x.about(a, fact), want);
                break;
            }
            case 10: case 11: case 12: {
                int s = pickSize(dice);
                long want = m.rows(a, s);
                SPENT_SEEN[0] += want == -2 ? 1 : 0;
                Checks.due("rows(" + a + ", " + s + ")", x.rows(a, s), want);
                break;
            }
            case 13: case 14: {
                int s = pickSize(dice);
                Checks.due("theta(" + a + ", " + s + ")", x.theta(a, s), m.theta(a, s));
                break;
            }
            case 15:
                Checks.due("reduce(" + a + ")", x.reduce(a), m.reduce(a));
                break;
            case 16: case 17: case 18: {
                long want = m.same(a, b);
                SPENT_SEEN[2] += want == -2 ? 1 : 0;
                Checks.due("same(" + a + ", " + b + ")", x.same(a, b), want);
                break;
            }
            case 19:
                Checks.due("dual(" + a + ")", x.dual(a), m.dual(a));
                break;
            case 20:
                Checks.due("sum(" + a + ", " + b + ")", x.sum(a, b), m.sum(a, b));
                break;
            case 21: {
                int by = dice.nextInt(3) == 0 ? ODD[dice.nextInt(ODD.length)] : 1 + dice.nextInt(9);
                Checks.due("scale(" + a + ", " + by + ")", x.scale(a, by), m.scale(a, by));
                break;
            }
            case 22:
                Checks.due("within(" + a + ")", x.within(a), m.within(a));
                break;
            case 23: case 24: {
                long want = m.denser(a, b);
                SPENT_SEEN[3] += want == -2 ? 1 : 0;
                Checks.due("denser(" + a + ", " + b + ")", x.denser(a, b), want);
                break;
            }
            case 25: case 26: case 27: {
                int most = dice.nextBoolean() ? 4 : 60;
                int q = dice.nextInt(10) == 0 ? ODD[dice.nextInt(ODD.length)] : 1 + dice.nextInt(most);
                int[] p = {pickPlace(dice), pickPlace(dice), pickPlace(dice), pickPlace(dice)};
                long want = m.nearest(a, q, p);
                SPENT_SEEN[4] += want == -2 ? 1 : 0;
                Checks.due("nearest(" + a + ", " + q + ", " + p[0] + ", " + p[1] + ", " + p[2] + ", " + p[3] + ")",
                    x.nearest(a, q, p[0], p[1], p[2], p[3]), want);
                break;
            }
            case 28: {
                int i = pick(dice, 4);
                int k = pick(dice, 4);
                int v = dice.nextBoolean() ? ODD[dice.nextInt(ODD.length)] : dice.nextInt(9) - 4;
                Checks.due("cell(" + i + ", " + k + ", " + v + ")", x.cell(i, k, v), m.cell(i, k, v));
                Checks.due("cellOf(" + i + ", " + k + ")", x.cellOf(i, k), m.cellOf(i, k));
                break;
            }
            default: {
                int i = ODD[dice.nextInt(ODD.length)];
                int k = ODD[dice.nextInt(ODD.length)];
                Checks.due("sheet(" + i + ")", x.sheet(i), m.sheet(i));
                Checks.due("row(" + i + ", " + k + ")", x.row(i, k), m.row(i, k));
                Checks.due("size(" + i + ")", x.size(i), m.size(i));
                Checks.due("way(" + i + ", " + k + ")", x.way(i, k), m.way(i, k));
                Checks.due("told(" + i + ")", x.told(i), m.told(i));
                Checks.due("take()", x.take(), m.take());
                break;
            }
        }
    }
}
