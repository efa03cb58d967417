/** For each promise of the document: ordinary calls, the edges that it names, and wrong calls. */
public final class SphereBenchPromises {
    private static final int OUT = Checks.OUT;
    private static final int[] FAR = Checks.FAR;

    public static void main(String[] args) {
        Checks.test("promise 1", SphereBenchPromises::promise1NewObject);
        Checks.test("promise 2", SphereBenchPromises::promise2Sheet);
        Checks.test("promise 3", SphereBenchPromises::promise3Cell);
        Checks.test("promise 4", SphereBenchPromises::promise4CellOf);
        Checks.test("promise 5", SphereBenchPromises::promise5Take);
        Checks.test("promise 6", SphereBenchPromises::promise6Table);
        Checks.test("promise 7", SphereBenchPromises::promise7About);
        Checks.test("promise 8", SphereBenchPromises::promise8Rows);
        Checks.test("promise 9", SphereBenchPromises::promise9Theta);
        Checks.test("promise 10", SphereBenchPromises::promise10Row);
        Checks.test("promise 11", SphereBenchPromises::promise11Size);
        Checks.test("promise 12", SphereBenchPromises::promise12Reduce);
        Checks.test("promise 13", SphereBenchPromises::promise13Same);
        Checks.test("promise 14", SphereBenchPromises::promise14Way);
        Checks.test("promise 15", SphereBenchPromises::promise15WayWorth);
        Checks.test("promise 16", SphereBenchPromises::promise16Dual);
        Checks.test("promise 17", SphereBenchPromises::promise17Sum);
        Checks.test("promise 18", SphereBenchPromises::promise18Scale);
        Checks.test("promise 19", SphereBenchPromises::promise19Within);
        Checks.test("promise 20", SphereBenchPromises::promise20Index);
        Checks.test("promise 21", SphereBenchPromises::promise21Denser);
        Checks.test("promise 22", SphereBenchPromises::promise22Nearest);
        Checks.test("promise 23", SphereBenchPromises::promise23Told);
        Checks.end();
    }

    private static void promise1NewObject() {
        Bench x = new Bench();
        Checks.due("told(0)", x.told(0), 0);
        Checks.due("told(1)", x.told(1), 1);
        Checks.due("told(2)", x.told(2), 0);
        Checks.due("told(3)", x.told(3), 0);
        Checks.due("cellOf(0, 0)", x.cellOf(0, 0), 1);
        Checks.due("index()", x.index(), 1);
        Checks.due("take()", x.take(), 0);
        Checks.dueTable(x, 0, Tables.ONE);
        Bench y = new Bench();
        Checks.due("told(0) of another object", y.told(0), 0);
    }

    private static void promise2Sheet() {
        Bench x = new Bench();
        for (int n = 1; n <= 4; n++) {
            Checks.due("cell(0, 0, 7)", x.cell(0, 0, 7), true);
            Checks.due("sheet(" + n + ")", x.sheet(n), true);
            Checks.due("told(1)", x.told(1), n);
            for (int i = 0; i < n; i++) {
                for (int k = 0; k < n; k++) {
                    Checks.due("cellOf(" + i + ", " + k + ")", x.cellOf(i, k), 0);
                }
            }
            Checks.due("cellOf(n, 0)", x.cellOf(n, 0), OUT);
        }
        x.cell(3, 3, 5);
        int[] others = {0, 5, -1, Integer.MIN_VALUE, Integer.MAX_VALUE};
        for (int n : others) {
            Checks.due("sheet(" + n + ")", x.sheet(n), false);
            Checks.due("told(1)", x.told(1), 4);
            Checks.due("cellOf(3, 3)", x.cellOf(3, 3), 5);
        }
    }

    private static void promise3Cell() {
        Bench x = new Bench();
        x.sheet(3);
        Checks.due("cell(0, 2, 999)", x.cell(0, 2, 999), true);
        Checks.due("cell(2, 0, -999)", x.cell(2, 0, -999), true);
        Checks.due("cellOf(0, 2)", x.cellOf(0, 2), 999);
        Checks.due("cellOf(2, 0)", x.cellOf(2, 0), -999);
        Checks.due("cell(0, 2, 1000)", x.cell(0, 2, 1000), false);
        Checks.due("cell(2, 0, -1000)", x.cell(2, 0, -1000), false);
        Checks.due("cell(0, 3, 1)", x.cell(0, 3, 1), false);
        Checks.due("cell(3, 0, 1)", x.cell(3, 0, 1), false);
        Checks.due("cell(-1, 0, 1)", x.cell(-1, 0, 1), false);
        Checks.due("cell(0, -1, 1)", x.cell(0, -1, 1), false);
        for (int far : FAR) {
            Checks.due("cell(far, 0, 1)", x.cell(far, 0, 1), false);
            Checks.due("cell(0, far, 1)", x.cell(0, far, 1), false);
            Checks.due("cell(0, 2, far)", x.cell(0, 2, far), false);
        }
        for (int i = 0; i < 3; i++) {
            for (int k = 0; k < 3; k++) {
                int want = i == 0 && k == 2 ? 999 : i == 2 && k == 0 ? -999 : 0;
                Checks.due("cellOf(" + i + ", " + k + ")", x.cellOf(i, k), want);
            }
        }
    }

    private static void promise4CellOf() {
        Bench x = new Bench();
        x.write(new int[][] {{1, -2}, {3, -4}});
        Checks.due("cellOf(0, 0)", x.cellOf(0, 0), 1);
        Checks.due("cellOf(0, 1)", x.cellOf(0, 1), -2);
        Checks.due("cellOf(1, 0)", x.cellOf(1, 0), 3);
        Checks.due("cellOf(1, 1)", x.cellOf(1, 1), -4);
        Checks.due("cellOf(2, 0)", x.cellOf(2, 0), OUT);
        Checks.due("cellOf(0, 2)", x.cellOf(0, 2), OUT);
        Checks.due("cellOf(-1, 0)", x.cellOf(-1, 0), OUT);
        Checks.due("cellOf(0, -1)", x.cellOf(0, -1), OUT);
        for (int far : FAR) {
            Checks.due("cellOf(far, far)", x.cellOf(far, far), OUT);
        }
    }

    private static void promise5Take() {
        Bench x = new Bench();
        Checks.due("unlike in line 0", x.take(new int[][] {{1, 0, 1}, {0, 1, 2}, {0, 0, 1}}), -10);
        Checks.due("unlike in line 1", x.take(new int[][] {{1, 0, 0}, {0, 1, 2}, {0, 0, 1}}), -11);
        int[][] last = {{1, 0, 0, 0}, {0, 1, 0, 0}, {0, 0, 1, 2}, {0, 0, 0, 1}};
        Checks.due("unlike in line 2", x.take(last), -12);
        Checks.due("unlike comes before flat", x.take(new int[][] {{-1, 0}, {1, 1}}), -10);
        Checks.due("flat first corner", x.take(new int[][] {{0, 1}, {1, 1}}), -21);
        Checks.due("first corner below 0", x.take(new int[][] {{-1}}), -21);
        Checks.due("flat second corner", x.take(new int[][] {{1, 1, 0}, {1, 1, 0}, {0, 0, 1}}), -22);
        Checks.due("flat third corner", x.take(new int[][] {{2, 1, 1}, {1, 2, -1}, {1, -1, 2}}), -23);
        int[][] below = {{1, 0, 0, 2}, {0, 1, 0, 0}, {0, 0, 1, 0}, {2, 0, 0, 3}};
        Checks.due("fourth corner below 0", x.take(below), -24);
        Checks.due("told(0)", x.told(0), 0);
        Checks.due("the greatest table", x.take(new int[][] {{999, -998}, {-998, 999}}), 0);
        Checks.dueTable(x, 0, new int[][] {{999, -998}, {-998, 999}});
        Checks.due("the next number", x.take(Tables.D4), 1);
        Checks.dueTable(x, 1, Tables.D4);
        x.cell(0, 0, 3);
        Checks.due("table(1, 0, 0) when the sheet changes", x.table(1, 0, 0), 2);
        for (int i = 2; i < 20; i++) {
            Checks.due("take()", x.take(Tables.ONE), i);
        }
        Checks.due("the 21st take()", x.take(), -1);
        Checks.due("the 21st, of an unlike sheet", x.take(new int[][] {{1, 1}, {0, 1}}), -1);
        Checks.due("told(0)", x.told(0), 20);
    }

    private static void promise6Table() {
        Bench x = Checks.bench(Tables.HEXAGON, Tables.CUBE);
        Checks.dueTable(x, 0, Tables.HEXAGON);
        Checks.dueTable(x, 1, Tables.CUBE);
        Checks.due("table(0, 2, 0)", x.table(0, 2, 0), OUT);
        Checks.due("table(0, 0, 2)", x.table(0, 0, 2), OUT);
        Checks.due("table(0, -1, 0)", x.table(0, -1, 0), OUT);
        Checks.due("table(0, 0, -1)", x.table(0, 0, -1), OUT);
        Checks.due("table(2, 0, 0)", x.table(2, 0, 0), OUT);
        Checks.due("table(-1, 0, 0)", x.table(-1, 0, 0), OUT);
        for (int far : FAR) {
            Checks.due("table(far, 0, 0)", x.table(far, 0, 0), OUT);
            Checks.due("table(0, far, far)", x.table(0, far, far), OUT);
        }
    }

    private static void promise7About() {
        int[][] flat = {{999, 0, 0}, {0, 1, 0}, {0, 0, 1}};
        Bench x = Checks.bench(Tables.D4, Tables.BENT, Tables.MORE_BENT, new int[][] {{2, 0}, {0, 3}}, flat);
        long[][] want = {{4, 4, 1, 2, 24, 1, 1152}, {2, 1, 0, 1, 4, 0, 8}, {2, 1, 0, -2, -2, -2, -2},
            {2, 6, 0, 2, 2, 0, 4}, {3, 999, 0, 1, 4, 0, -2}};
        for (int time = 0; time < 2; time++) {
            for (int a = 0; a < want.length; a++) {
                for (int what = 0; what < 7; what++) {
                    Checks.due("about(" + a + ", " + what + ")", x.about(a, what), want[a][what]);
                }
            }
        }
        Checks.due("about(0, 7)", x.about(0, 7), -1);
        Checks.due("about(0, -1)", x.about(0, -1), -1);
        Checks.due("about(5, 0)", x.about(5, 0), -1);
        Checks.due("about(-1, 0)", x.about(-1, 0), -1);
        for (int far : FAR) {
            Checks.due("about(far, 0)", x.about(far, 0), -1);
            Checks.due("about(0, far)", x.about(0, far), -1);
        }
        Checks.due("told(2)", x.told(2), 0);
        Checks.due("told(3)", x.told(3), 0);
        perfectOnes();
        turnsUpToTheLastTry();
    }

    private static void perfectOnes() {
        int[][] a3 = {{2, -1, 0}, {-1, 2, -1}, {0, -1, 2}};
        int[][] a4 = {{2, -1, 0, 0}, {-1, 2, -1, 0}, {0, -1, 2, -1}, {0, 0, -1, 2}};
        int[][] nearlyA3 = {{2, -1, 0}, {-1, 2, -1}, {0, -1, 3}};
        int[][] bentHexagon = {{2, 5}, {5, 14}};
        Bench x = Checks.bench(Tables.ONE, Tables.HEXAGON, a3, a4, nearlyA3, bentHexagon, Tables.CUBE4);
        int[] perfect = {1, 1, 1, 1, 0, 1, 0};
        for (int a = 0; a < perfect.length; a++) {
            Checks.due("about(" + a + ", 5)", x.about(a, 5), perfect[a]);
        }
        Checks.due("KISS of a4", x.about(3, 4), 20);
        Checks.due("TURNS of a4", x.about(3, 6), 240);
        Checks.due("TURNS of the cube of four ways", x.about(6, 6), 384);
    }

    /** The same lattice by two tables: its TURNS take 198,744 and would take 200,472 TRIES. */
    private static void turnsUpToTheLastTry() {
        int[][] under = {{2, -1, -2, -4}, {-1, 2, 3, 5}, {-2, 3, 6, 10}, {-4, 5, 10, 18}};
        int[][] over = {{2, 3, -3, -5}, {3, 6, -5, -6}, {-3, -5, 6, 9}, {-5, -6, 9, 18}};
        Bench x = Checks.bench(under, over);
        Checks.due("TURNS by 198,744 TRIES", x.about(0, 6), 1152);
        Checks.due("TURNS by 200,472 TRIES", x.about(1, 6), -2);
        Checks.due("KISS where TURNS are SPENT", x.about(1, 4), 24);
    }

    private static void promise8Rows() {
        Bench x = Checks.bench(Tables.ONE, Tables.SQUARE, Tables.CUBE4, Tables.BENT, Tables.MORE_BENT);
        Checks.due("rows(1, 2)", x.rows(1, 2), 8);
        int[][] order = {{-1, 0}, {0, -1}, {0, 1}, {1, 0}, {-1, -1}, {-1, 1}, {1, -1}, {1, 1}};
        Checks.dueList(x, order);
        Checks.due("rows(1, 0)", x.rows(1, 0), -1);
        Checks.due("rows(1, -5)", x.rows(1, -5), -1);
        Checks.due("rows(1, 1000001)", x.rows(1, 1000001), -1);
        Checks.due("rows(5, 2)", x.rows(5, 2), -1);
        Checks.due("rows(-1, 2)", x.rows(-1, 2), -1);
        Checks.due("1002 ROWS", x.rows(0, 251001), -2);
        Checks.due("rows(0, 1000000)", x.rows(0, 1000000), -2);
        Checks.due("too wide a box", x.rows(4, 199), -2);
        for (int far : FAR) {
            Checks.due("rows(far, 1)", x.rows(far, 1), -1);
        }
        Checks.due("rows(1, MIN)", x.rows(1, Integer.MIN_VALUE), -1);
        Checks.due("rows(1, MAX)", x.rows(1, Integer.MAX_VALUE), -1);
        Checks.dueList(x, order);
        Checks.due("size(7)", x.size(7), 2);
        Checks.due("1000 ROWS", x.rows(0, 251000), 1000);
        Checks.due("row(0, 0)", x.row(0, 0), -1);
        Checks.due("row(999, 0)", x.row(999, 0), 500);
        Checks.due("size(999)", x.size(999), 250000);
        Checks.due("rows(2, 13)", x.rows(2, 13), 872);
        Checks.due("rows(2, 14)", x.rows(2, 14), -2);
        Checks.due("told(2)", x.told(2), 872);
        Checks.due("the widest box", x.rows(4, 198), gauss(198));
        Checks.due("rows(3, 300)", x.rows(3, 300), gauss(300));
        Checks.due("one more in a box that is wide", x.rows(3, 316), gauss(316));
        Checks.due("no ROWS", Checks.bench(new int[][] {{5}}).rows(0, 4), 0);
        dueNoRowsClearsTheList();
        dueSizesRise();
    }

    private static void dueNoRowsClearsTheList() {
        Bench x = Checks.bench(new int[][] {{5}});
        Checks.due("rows(0, 20)", x.rows(0, 20), 4);
        Checks.due("rows(0, 4)", x.rows(0, 4), 0);
        Checks.due("told(2)", x.told(2), 0);
        Checks.due("row(0, 0)", x.row(0, 0), OUT);
        Checks.due("size(0)", x.size(0), -1);
    }

    private static void dueSizesRise() {
        Bench x = Checks.bench(Tables.BENT);
        int count = x.rows(0, 40);
        Checks.due("rows(0, 40)", count, gauss(40));
        long[] before = {0, 0, 0};
        for (int i = 0; i < count; i++) {
            long[] now = {x.size(i), x.row(i, 0), x.row(i, 1)};
            Checks.due("size(" + i + ")", now[0], 89 * now[1] * now[1] + 288 * now[1] * now[2] + 233 * now[2] * now[2]);
            Checks.due("order at " + i, java.util.Arrays.compare(before, now) < 0, true);
            before = now;
        }
    }

    /** How many pairs but 0, 0 have squares of at most s together. */
    private static int gauss(int s) {
        int count = -1;
        for (int a = -s; a <= s; a++) {
            for (int b = -s; b <= s; b++) {
                count += a * a + b * b <= s ? 1 : 0;
            }
        }
        return count;
    }

    private static void promise9Theta() {
        Bench x = Checks.bench(Tables.ONE, Tables.D4, Tables.MORE_BENT);
        x.rows(0, 4);
        int[] want = {0, 24, 0, 24, 0, 96, 0, 24, 0, 144};
        for (int size = 1; size <= want.length; size++) {
            Checks.due("theta(1, " + size + ")", x.theta(1, size), want[size - 1]);
        }
        Checks.due("theta(0, 250000)", x.theta(0, 250000), 2);
        Checks.due("theta(0, 251000)", x.theta(0, 251000), 0);
        Checks.due("theta(0, 251001)", x.theta(0, 251001), -2);
        Checks.due("theta(2, 185)", x.theta(2, 185), 16);
        Checks.due("theta(2, 199)", x.theta(2, 199), -2);
        Checks.due("theta(0, 0)", x.theta(0, 0), -1);
        Checks.due("theta(0, 1000001)", x.theta(0, 1000001), -1);
        Checks.due("theta(0, 1000000)", x.theta(0, 1000000), -2);
        Checks.due("theta(3, 1)", x.theta(3, 1), -1);
        Checks.due("theta(-1, 1)", x.theta(-1, 1), -1);
        for (int far : FAR) {
            Checks.due("theta(far, 1)", x.theta(far, 1), -1);
        }
        Checks.dueList(x, new int[][] {{-1}, {1}, {-2}, {2}});
    }

    private static void promise10Row() {
        Bench x = Checks.bench(Tables.HEXAGON, Tables.CUBE4);
        Checks.due("row(0, 0) of a new object", x.row(0, 0), OUT);
        x.rows(0, 2);
        Checks.dueList(x, new int[][] {{-1, -1}, {-1, 0}, {0, -1}, {0, 1}, {1, 0}, {1, 1}});
        Checks.due("row(5, 2)", x.row(5, 2), OUT);
        Checks.due("row(6, 0)", x.row(6, 0), OUT);
        Checks.due("row(-1, 0)", x.row(-1, 0), OUT);
        Checks.due("row(0, -1)", x.row(0, -1), OUT);
        for (int far : FAR) {
            Checks.due("row(far, 0)", x.row(far, 0), OUT);
            Checks.due("row(0, far)", x.row(0, far), OUT);
        }
        x.rows(1, 1);
        Checks.due("row(0, 3)", x.row(0, 3), 0);
        Checks.due("row(3, 3)", x.row(3, 3), -1);
        Checks.due("row(0, 4)", x.row(0, 4), OUT);
    }

    private static void promise11Size() {
        Bench x = Checks.bench(Tables.HEXAGON);
        Checks.due("size(0) of a new object", x.size(0), -1);
        x.rows(0, 8);
        Checks.due("size(0)", x.size(0), 2);
        Checks.due("size(5)", x.size(5), 2);
        Checks.due("size(6)", x.size(6), 6);
        Checks.due("size(17)", x.size(17), 8);
        Checks.due("size(18)", x.size(18), -1);
        Checks.due("size(-1)", x.size(-1), -1);
        for (int far : FAR) {
            Checks.due("size(far)", x.size(far), -1);
        }
        x.nearest(0, 60, 31, 7, 0, 0);
        Checks.due("size(0) of a NEAREST one", x.size(0), 2 * 31 * 31 - 2 * 31 * 7 + 2 * 7 * 7);
        Checks.due("size(1)", x.size(1), -1);
        Bench far = Checks.bench(new int[][] {{999, 0, 0, 0}, {0, 999, 0, 0}, {0, 0, 999, 0}, {0, 0, 0, 999}});
        Checks.due("the farthest place", far.nearest(0, 60, 5970, -5970, 30, -30), 16);
        Checks.due("size(15)", far.size(15), 4L * 999 * 900);
    }

    private static void promise12Reduce() {
        Bench x = Checks.bench(Tables.BENT, new int[][] {{2, 3}, {3, 7}}, new int[][] {{2, -3}, {-3, 7}},
            new int[][] {{5, 0, 1}, {0, 3, 0}, {1, 0, 5}}, new int[][] {{2, 1}, {1, 2}}, Tables.MORE_BENT);
        Checks.due("reduce(0)", x.reduce(0), 6);
        Checks.dueTable(x, 6, Tables.SQUARE);
        Checks.due("wayWorth() without sign", Math.abs(x.wayWorth()), 1);
        Checks.due("a half goes towards 0", x.reduce(1), 7);
        Checks.dueTable(x, 7, new int[][] {{2, 1}, {1, 3}});
        Checks.dueWay(x, new int[][] {{1, 0}, {-1, 1}});
        Checks.due("a half below 0 too", x.reduce(2), 8);
        Checks.dueTable(x, 8, new int[][] {{2, -1}, {-1, 3}});
        Checks.dueWay(x, new int[][] {{1, 0}, {1, 1}});
        Checks.due("like ones stay as they stand", x.reduce(3), 9);
        Checks.dueTable(x, 9, new int[][] {{3, 0, 0}, {0, 5, 1}, {0, 1, 5}});
        Checks.dueWay(x, new int[][] {{0, 1, 0}, {1, 0, 0}, {0, 0, 1}});
        Checks.due("wayWorth()", x.wayWorth(), -1);
        Checks.due("a table that is REDUCED", x.reduce(4), 10);
        Checks.dueTable(x, 10, new int[][] {{2, 1}, {1, 2}});
        Checks.dueWay(x, new int[][] {{1, 0}, {0, 1}});
        Checks.due("the most bent one", x.reduce(5), 11);
        Checks.dueTable(x, 11, Tables.SQUARE);
        int way = x.way(0, 0);
        Checks.due("reduce(12)", x.reduce(12), -1);
        Checks.due("reduce(-1)", x.reduce(-1), -1);
        for (int far : FAR) {
            Checks.due("reduce(far)", x.reduce(far), -1);
        }
        x.fillUpTo(20);
        Checks.due("reduce(3) when there are 20", x.reduce(3), -1);
        Checks.due("told(0)", x.told(0), 20);
        Checks.due("told(3)", x.told(3), 2);
        Checks.due("way(0, 0)", x.way(0, 0), way);
        firstPairFirst();
    }

    /** Pairs are tried from the first again after each that helps. */
    private static void firstPairFirst() {
        Bench x = Checks.bench(new int[][] {{3, -4, 2}, {-4, 8, -5}, {2, -5, 4}});
        Checks.due("reduce(0)", x.reduce(0), 1);
        Checks.dueTable(x, 1, new int[][] {{1, 0, 0}, {0, 2, 1}, {0, 1, 3}});
        Checks.dueWay(x, new int[][] {{1, 1, 1}, {0, -1, -1}, {-1, -1, 0}});
    }

    private static void promise13Same() {
        int[][] twice = {{999, 0}, {0, 999}};
        Bench x = Checks.bench(Tables.SQUARE, Tables.BENT, Tables.HEXAGON, new int[][] {{2, 1}, {1, 2}},
            new int[][] {{1, 0}, {0, 3}}, Tables.CUBE, Tables.MORE_BENT, twice, Tables.ONE);
        Checks.due("same(2, 3)", x.same(2, 3), 1);
        Checks.dueWay(x, new int[][] {{-1, -1}, {-1, 0}});
        Checks.due("same(2, 4), of like WORTH", x.same(2, 4), 0);
        Checks.due("same(0, 2), of unlike WORTH", x.same(0, 2), 0);
        Checks.due("unlike WORTH where ROWS are SPENT", x.same(6, 7), 0);
        Checks.due("same(6, 6)", x.same(6, 6), -2);
        Checks.due("same(0, 5)", x.same(0, 5), -1);
        Checks.due("same(0, 8)", x.same(0, 8), -1);
        Checks.due("same(0, 9)", x.same(0, 9), -1);
        Checks.due("same(9, 0)", x.same(9, 0), -1);
        Checks.due("same(-1, 0)", x.same(-1, 0), -1);
        for (int far : FAR) {
            Checks.due("same(far, 0)", x.same(far, 0), -1);
            Checks.due("same(0, far)", x.same(0, far), -1);
        }
        Checks.dueWay(x, new int[][] {{-1, -1}, {-1, 0}});
        Checks.due("same(0, 0)", x.same(0, 0), 1);
        Checks.dueWay(x, new int[][] {{-1, 0}, {0, -1}});
        Checks.due("same(1, 0)", x.same(1, 0), 1);
        Checks.dueMeetings(x, Tables.BENT, Tables.SQUARE);
        Checks.due("same(0, 1)", x.same(0, 1), 1);
        Checks.dueMeetings(x, Tables.SQUARE, Tables.BENT);
        Checks.due("same(8, 8)", x.same(8, 8), 1);
        Checks.dueWay(x, new int[][] {{-1}});
        Checks.due("told(0)", x.told(0), 9);
        Checks.due("told(2)", x.told(2), 0);
        sameBeyondTheLastTry();
    }

    /** No WAY leads there, though WORTH is alike: it takes 101,688 TRIES to say so, or more than there may be. */
    private static void sameBeyondTheLastTry() {
        int[][] over = {{2, 3, -3, -5}, {3, 6, -5, -6}, {-3, -5, 6, 9}, {-5, -6, 9, 18}};
        Bench x = Checks.bench(new int[][] {{2, -1, 0, 1}, {-1, 2, -1, 0}, {0, -1, 2, -1}, {1, 0, -1, 2}},
            new int[][] {{18, -13, 1, 6}, {-13, 14, -2, -3}, {1, -2, 2, -1}, {6, -3, -1, 3}},
            new int[][] {{2, 0, 1, 1}, {0, 2, -1, 1}, {1, -1, 2, 0}, {1, 1, 0, 2}},
            new int[][] {{10, -11, -3, -5}, {-11, 18, -1, 7}, {-3, -1, 6, 0}, {-5, 7, 0, 3}}, Tables.D4, over);
        Checks.due("WORTH", x.about(0, 1), x.about(1, 1));
        Checks.due("none by 101,688 TRIES", x.same(0, 1), 0);
        Checks.due("WORTH", x.about(2, 1), x.about(3, 1));
        Checks.due("more than 200,000 TRIES", x.same(2, 3), -2);
        Checks.due("ROWS that are not SPENT there", x.rows(2, 18) > 0, true);
        Checks.due("told(3)", x.told(3), 0);
        Checks.due("a first WAY is found where all are too many", x.same(4, 5), 1);
        Checks.dueMeetings(x, Tables.D4, over);
    }

    private static void promise14Way() {
        Bench x = Checks.bench(new int[][] {{1, 2}, {2, 5}});
        Checks.due("way(0, 0) without one", x.way(0, 0), OUT);
        x.reduce(0);
        Checks.dueWay(x, new int[][] {{1, 0}, {-2, 1}});
        Checks.due("way(2, 0)", x.way(2, 0), OUT);
        Checks.due("way(0, 2)", x.way(0, 2), OUT);
        Checks.due("way(-1, 0)", x.way(-1, 0), OUT);
        Checks.due("way(0, -1)", x.way(0, -1), OUT);
        for (int far : FAR) {
            Checks.due("way(far, 0)", x.way(far, 0), OUT);
            Checks.due("way(0, far)", x.way(0, far), OUT);
        }
        x.take(Tables.CUBE);
        x.about(0, 6);
        x.dual(0);
        Checks.dueWay(x, new int[][] {{1, 0}, {-2, 1}});
    }

    private static void promise15WayWorth() {
        Bench x = Checks.bench(new int[][] {{3, 0}, {0, 2}}, Tables.HEXAGON, new int[][] {{2, 1}, {1, 2}}, Tables.D4);
        Checks.due("wayWorth() without one", x.wayWorth(), 0);
        x.same(1, 0);
        Checks.due("wayWorth() without one still", x.wayWorth(), 0);
        x.reduce(0);
        Checks.due("of two ROWS changed about", x.wayWorth(), -1);
        x.reduce(1);
        Checks.due("of one ROW from another", x.wayWorth(), 1);
        x.same(1, 2);
        Checks.due("of the first WAY", x.wayWorth(), -1);
        x.same(3, 3);
        Checks.due("of a WAY of four ROWS", Math.abs(x.wayWorth()), 1);
    }

    private static void promise16Dual() {
        Bench x = Checks.bench(Tables.HEXAGON, new int[][] {{7}}, Tables.D4,
            new int[][] {{2, 1, 0}, {1, 3, -1}, {0, -1, 4}},
            new int[][] {{999, 0, 0}, {0, 1, 0}, {0, 0, 1}}, new int[][] {{500, 0, 0}, {0, 2, 0}, {0, 0, 1}});
        Checks.due("dual(0)", x.dual(0), 6);
        Checks.dueTable(x, 6, new int[][] {{2, 1}, {1, 2}});
        Checks.due("dual of one way", x.dual(1), 7);
        Checks.dueTable(x, 7, Tables.ONE);
        Checks.due("dual(2)", x.dual(2), 8);
        Checks.dueTable(x, 8, new int[][] {{4, 4, 2, 2}, {4, 8, 4, 4}, {2, 4, 4, 2}, {2, 4, 2, 4}});
        Checks.due("dual(3)", x.dual(3), 9);
        Checks.dueTable(x, 9, new int[][] {{11, -4, -1}, {-4, 8, 2}, {-1, 2, 5}});
        Checks.due("a number of 999", x.dual(4), 10);
        Checks.dueTable(x, 10, new int[][] {{1, 0, 0}, {0, 999, 0}, {0, 0, 999}});
        Checks.due("a number of 1000", x.dual(5), -1);
        Checks.due("dual(11)", x.dual(11), -1);
        Checks.due("dual(-1)", x.dual(-1), -1);
        for (int far : FAR) {
            Checks.due("dual(far)", x.dual(far), -1);
        }
        Checks.due("told(0)", x.told(0), 11);
        x.fillUpTo(20);
        Checks.due("dual(0) when there are 20", x.dual(0), -1);
        Checks.due("told(0)", x.told(0), 20);
    }

    private static void promise17Sum() {
        Bench x = Checks.bench(Tables.HEXAGON, new int[][] {{7}}, Tables.CUBE);
        Checks.due("sum(0, 1)", x.sum(0, 1), 3);
        Checks.dueTable(x, 3, new int[][] {{2, -1, 0}, {-1, 2, 0}, {0, 0, 7}});
        Checks.due("sum(1, 0)", x.sum(1, 0), 4);
        Checks.dueTable(x, 4, new int[][] {{7, 0, 0}, {0, 2, -1}, {0, -1, 2}});
        Checks.due("sum(0, 0)", x.sum(0, 0), 5);
        Checks.dueTable(x, 5, new int[][] {{2, -1, 0, 0}, {-1, 2, 0, 0}, {0, 0, 2, -1}, {0, 0, -1, 2}});
        Checks.due("sum(2, 1)", x.sum(2, 1), 6);
        Checks.due("five ways", x.sum(2, 0), -1);
        Checks.due("eight ways", x.sum(5, 5), -1);
        Checks.due("sum(0, 7)", x.sum(0, 7), -1);
        Checks.due("sum(7, 0)", x.sum(7, 0), -1);
        Checks.due("sum(-1, 0)", x.sum(-1, 0), -1);
        for (int far : FAR) {
            Checks.due("sum(far, 0)", x.sum(far, 0), -1);
            Checks.due("sum(0, far)", x.sum(0, far), -1);
        }
        Checks.due("told(0)", x.told(0), 7);
        x.fillUpTo(20);
        Checks.due("sum(1, 1) when there are 20", x.sum(1, 1), -1);
        Checks.due("told(0)", x.told(0), 20);
    }

    private static void promise18Scale() {
        Bench x = Checks.bench(Tables.HEXAGON, Tables.ONE, new int[][] {{3, -2}, {-2, 333}});
        Checks.due("scale(0, 3)", x.scale(0, 3), 3);
        Checks.dueTable(x, 3, new int[][] {{6, -3}, {-3, 6}});
        Checks.due("scale(1, 999)", x.scale(1, 999), 4);
        Checks.dueTable(x, 4, new int[][] {{999}});
        Checks.due("scale(2, 3)", x.scale(2, 3), 5);
        Checks.dueTable(x, 5, new int[][] {{9, -6}, {-6, 999}});
        Checks.due("scale(2, 4)", x.scale(2, 4), -1);
        Checks.due("scale(0, 1)", x.scale(0, 1), 6);
        Checks.dueTable(x, 6, Tables.HEXAGON);
        Checks.due("scale(1, 0)", x.scale(1, 0), -1);
        Checks.due("scale(1, -1)", x.scale(1, -1), -1);
        Checks.due("scale(1, 1000)", x.scale(1, 1000), -1);
        Checks.due("scale(7, 1)", x.scale(7, 1), -1);
        Checks.due("scale(-1, 1)", x.scale(-1, 1), -1);
        for (int far : FAR) {
            Checks.due("scale(far, 1)", x.scale(far, 1), -1);
            Checks.due("scale(0, far)", x.scale(0, far), -1);
        }
        Checks.due("told(0)", x.told(0), 7);
        x.fillUpTo(20);
        Checks.due("scale(1, 1) when there are 20", x.scale(1, 1), -1);
        Checks.due("told(0)", x.told(0), 20);
    }

    private static void promise19Within() {
        Bench x = Checks.bench(Tables.HEXAGON, Tables.ONE, Tables.CUBE);
        x.write(new int[][] {{1, 1}, {2, -1}});
        Checks.due("within(0)", x.within(0), 3);
        Checks.dueTable(x, 3, new int[][] {{2, 1}, {1, 14}});
        Checks.due("within one of another n", x.within(1), -1);
        Checks.due("within one of another n", x.within(2), -1);
        x.write(new int[][] {{1, 2, 0}, {0, 1, -1}, {3, 0, 0}});
        Checks.due("within(2)", x.within(2), 4);
        Checks.dueTable(x, 4, new int[][] {{5, 2, 3}, {2, 2, 0}, {3, 0, 9}});
        Checks.due("WORTH is the square of the index times WORTH", x.about(4, 1), x.index() * x.index());
        x.write(new int[][] {{1, 2}, {2, 4}});
        Checks.due("a determinant of 0", x.within(0), -1);
        x.write(new int[][] {{31}});
        Checks.due("a number of 961", x.within(1), 5);
        x.write(new int[][] {{32}});
        Checks.due("a number of 1024", x.within(1), -1);
        x.write(new int[][] {{-999}});
        Checks.due("a number of 998001", x.within(1), -1);
        x.write(new int[][] {{-1}});
        Checks.due("within(6)", x.within(6), -1);
        Checks.due("within(-1)", x.within(-1), -1);
        for (int far : FAR) {
            Checks.due("within(far)", x.within(far), -1);
        }
        Checks.due("told(0)", x.told(0), 6);
        Checks.due("within(1)", x.within(1), 6);
        Checks.dueTable(x, 6, Tables.ONE);
        x.fillUpTo(20);
        Checks.due("within(1) when there are 20", x.within(1), -1);
        Checks.due("told(0)", x.told(0), 20);
    }

    private static void promise20Index() {
        Bench x = new Bench();
        x.write(new int[][] {{-7}});
        Checks.due("of one line", x.index(), 7);
        x.write(new int[][] {{1, 2}, {3, 4}});
        Checks.due("of two lines", x.index(), 2);
        x.write(new int[][] {{1, 2, 3}, {4, 5, 6}, {7, 8, 9}});
        Checks.due("of lines made of others", x.index(), 0);
        x.write(new int[][] {{0, 0, 0, 1}, {0, 0, 2, 0}, {0, 3, 0, 0}, {5, 0, 0, 0}});
        Checks.due("of four lines", x.index(), 30);
        x.write(new int[][] {{999, 999, 999, 999}, {999, -999, 999, -999}, {999, 999, -999, -999},
            {999, -999, -999, 999}});
        Checks.due("the greatest", x.index(), 16L * 999 * 999 * 999 * 999);
        x.sheet(3);
        Checks.due("of noughts", x.index(), 0);
    }

    private static void promise21Denser() {
        Bench x = Checks.bench(Tables.SQUARE, Tables.HEXAGON, Tables.CUBE, Tables.MORE_BENT, Tables.BENT);
        Checks.due("denser(1, 0)", x.denser(1, 0), 1);
        Checks.due("denser(0, 1)", x.denser(0, 1), -1);
        Checks.due("denser(0, 4)", x.denser(0, 4), 0);
        Checks.due("denser(0, 3)", x.denser(0, 3), -2);
        Checks.due("denser(3, 0)", x.denser(3, 0), -2);
        Checks.due("denser(2, 0)", x.denser(2, 0), -3);
        Checks.due("denser(2, 3)", x.denser(2, 3), -3);
        Checks.due("denser(0, 5)", x.denser(0, 5), -3);
        Checks.due("denser(-1, 0)", x.denser(-1, 0), -3);
        for (int far : FAR) {
            Checks.due("denser(far, 0)", x.denser(far, 0), -3);
            Checks.due("denser(0, far)", x.denser(0, far), -3);
        }
        denserBeyondALong();
    }

    /** Here the products that are compared are beyond a long: 999 ^ 4 * 999 ^ 4. */
    private static void denserBeyondALong() {
        int[][] a = {{999, 0, 0, 0}, {0, 999, 0, 0}, {0, 0, 999, 0}, {0, 0, 0, 999}};
        int[][] b = {{998, 0, 0, 0}, {0, 998, 0, 0}, {0, 0, 998, 0}, {0, 0, 0, 998}};
        int[][] c = {{998, 0, 0, 0}, {0, 998, 0, 0}, {0, 0, 998, 1}, {0, 0, 1, 998}};
        int[][] d = {{998, 0, 0, 0}, {0, 999, 0, 0}, {0, 0, 999, 0}, {0, 0, 0, 999}};
        Bench x = Checks.bench(a, b, c, d);
        Checks.due("like ones", x.denser(0, 1), 0);
        Checks.due("one a very little denser", x.denser(2, 0), 1);
        Checks.due("the other one", x.denser(0, 2), -1);
        Checks.due("one a little less dense", x.denser(3, 2), -1);
        Checks.due("the other one", x.denser(2, 3), 1);
    }

    private static void promise22Nearest() {
        Bench x = Checks.bench(Tables.SQUARE, Tables.HEXAGON, Tables.CUBE4, Tables.MORE_BENT, Tables.BENT, Tables.ONE);
        Checks.due("the middle of a square", x.nearest(0, 2, 1, -1, 0, 0), 4);
        Checks.dueList(x, new int[][] {{0, -1}, {0, 0}, {1, -1}, {1, 0}});
        Checks.due("size(3)", x.size(3), 2);
        Checks.due("the middle of three", x.nearest(1, 3, 2, 1, 6001, -6001), 3);
        Checks.dueList(x, new int[][] {{0, 0}, {1, 0}, {1, 1}});
        Checks.due("nearest(1, 61, 0, 0, 0, 0)", x.nearest(1, 61, 0, 0, 0, 0), -1);
        Checks.due("nearest(1, 0, 0, 0, 0, 0)", x.nearest(1, 0, 0, 0, 0, 0), -1);
        Checks.due("nearest(1, 1, 6001, 0, 0, 0)", x.nearest(1, 1, 6001, 0, 0, 0), -1);
        Checks.due("nearest(1, 1, 0, -6001, 0, 0)", x.nearest(1, 1, 0, -6001, 0, 0), -1);
        Checks.due("nearest(2, 1, 0, 0, 6001, 0)", x.nearest(2, 1, 0, 0, 6001, 0), -1);
        Checks.due("nearest(2, 1, 0, 0, 0, -6001)", x.nearest(2, 1, 0, 0, 0, -6001), -1);
        Checks.due("nearest(6, 1, 0, 0, 0, 0)", x.nearest(6, 1, 0, 0, 0, 0), -1);
        Checks.due("nearest(-1, 1, 0, 0, 0, 0)", x.nearest(-1, 1, 0, 0, 0, 0), -1);
        Checks.due("too wide a box", x.nearest(3, 60, 30, 30, 0, 0), -2);
        for (int far : FAR) {
            Checks.due("nearest(far, 1, 0, 0, 0, 0)", x.nearest(far, 1, 0, 0, 0, 0), -1);
            Checks.due("nearest(0, far, 0, 0, 0, 0)", x.nearest(0, far, 0, 0, 0, 0), -1);
            Checks.due("nearest(0, 1, far, 0, 0, 0)", x.nearest(0, 1, far, 0, 0, 0), -1);
            Checks.due("nearest(0, 1, 0, far, 0, 0)", x.nearest(0, 1, 0, far, 0, 0), -1);
        }
        Checks.dueList(x, new int[][] {{0, 0}, {1, 0}, {1, 1}});
        int beyond = x.nearest(5, 60, -6000, Integer.MIN_VALUE, 6001, Integer.MAX_VALUE);
        Checks.due("numbers beyond n don't count", beyond, 1);
        Checks.dueList(x, new int[][] {{-100}});
        Checks.due("size(0)", x.size(0), 0);
        Checks.due("the farthest places", x.nearest(2, 1, 6000, -6000, 6000, -6000), 1);
        Checks.dueList(x, new int[][] {{6000, -6000, 6000, -6000}});
        Checks.due("all of sixteen", x.nearest(2, 2, 1, 1, 1, 1), 16);
        Checks.due("row(0, 3)", x.row(0, 3), 0);
        Checks.due("row(1, 3)", x.row(1, 3), 1);
        Checks.due("row(15, 0)", x.row(15, 0), 1);
        nearestOfABentTable(x);
    }

    /** ROWS nearest to a place are far from its nearest whole numbers when the table's lines are long. */
    private static void nearestOfABentTable(Bench x) {
        Checks.due("nearest(4, 2, 1, 0, 0, 0)", x.nearest(4, 2, 1, 0, 0, 0), 2);
        for (int i = 0; i < 2; i++) {
            long a = 2L * x.row(i, 0) - 1;
            long b = 2L * x.row(i, 1);
            Checks.due("size(" + i + ")", x.size(i), 89 * a * a + 288 * a * b + 233 * b * b);
            Checks.due("size(" + i + "), the least there is", x.size(i), 1);
        }
        Checks.due("the lower number first", x.row(0, 0) < x.row(1, 0), true);
        Checks.due("the box by the nearest whole numbers", x.nearest(3, 60, 59, 59, 0, 0), 1);
        Checks.due("size(0)", x.size(0), 21 * 21 + 26 * 26);
        Checks.due("the box by a half upwards", x.nearest(3, 6, 3, 2, 0, 0), 2);
        Checks.due("size(1)", x.size(1), 2 * 2 + 3 * 3);
        Checks.due("too wide a box by a half upwards", x.nearest(3, 6, 3, 4, 0, 0), -2);
        Checks.due("told(2)", x.told(2), 2);
    }

    private static void promise23Told() {
        Bench x = Checks.bench(Tables.HEXAGON, Tables.CUBE);
        Checks.due("told(0)", x.told(0), 2);
        Checks.due("told(1)", x.told(1), 3);
        Checks.due("told(2)", x.told(2), 0);
        Checks.due("told(3)", x.told(3), 0);
        x.rows(0, 2);
        x.reduce(1);
        Checks.due("told(0)", x.told(0), 3);
        Checks.due("told(2)", x.told(2), 6);
        Checks.due("told(3)", x.told(3), 3);
        x.nearest(0, 1, 0, 0, 0, 0);
        Checks.due("told(2)", x.told(2), 1);
        Checks.due("told(4)", x.told(4), -1);
        Checks.due("told(-1)", x.told(-1), -1);
        for (int far : FAR) {
            Checks.due("told(far)", x.told(far), -1);
        }
        Checks.due("NONE", SphereBench.NONE, -1);
    }
}
